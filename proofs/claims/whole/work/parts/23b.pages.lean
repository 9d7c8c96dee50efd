/-! a page holds a town's slips -/
def PGi (σ : Nat → Nat) (q : Nat → Int32) : Prop := ∀ s, s < 8 → q s = nI (kd (σ s)) ∧ (σ s < 24 → q (8 + s) = nI (σ s % 8))
def WFp (q : Nat → Int32) : Prop := ∃ σ, WFs σ ∧ PGi σ q
theorem kd_lt {v : Nat} (h : v < 26) : kd v < 5 := by unfold kd; split <;> omega
theorem kd_k {v k : Nat} (hk : k < 3) : kd v = k ↔ v / 8 = k := by unfold kd; split <;> omega
theorem cl8 {s : Nat} (h : s < 8) : (nI s).toNatClampNeg = s := nI_clamp (by omega)
theorem cl88 : ∀ s, s < 8 → ((8 : Int32) + nI s).toNatClampNeg = 8 + s := by decide
theorem cl16 : (16 : Int32).toNatClampNeg = 16 := by decide
theorem upd_s {α : Type} (f : Nat → α) (k : Nat) (x : α) : (fun j => if j = k then x else f j) k = x := if_pos rfl
theorem up_s (f : Nat → Int32) (k : Nat) (x : Int32) : upd f k x k = x := pk_us
theorem up_n (f : Nat → Int32) {k j : Nat} (x : Int32) (h : j ≠ k) : upd f k x j = f j := pk_un h
theorem slipsAt_l {σ : Nat → Nat} {q : Nat → Int32} (hW : ∀ s, s < 8 → σ s < 26) (h : PGi σ q) {k : Nat} (hk : k < 5) : ∀ n, n ≤ 8 → D_X8_slipsAt_l4 (nI k) q 0 n = nI (bset (fun s => decide (kd (σ s) = k)) n)
  | 0, _ => rfl
  | n + 1, hn => by
    rw [D_X8_slipsAt_l4, slipsAt_l hW h hk n (by omega), bset]
    unfold D_X8_slipsAt_b4
    rw [cl8 (by omega), (h n (by omega)).1, bit_1n n (by omega)]
    have hb := kd_lt (hW n (by omega))
    by_cases hc : kd (σ n) = k
    · rw [if_pos (by rw [hc]), fa_or]
      simp [hc]
    · rw [if_neg (fun z => hc ((nI_eq (by omega) (by omega)).mp z))]
      simp [hc]
theorem slipsAt_v {σ : Nat → Nat} {q : Nat → Int32} (hW : ∀ s, s < 8 → σ s < 26) (h : PGi σ q) {k : Nat} (hk : k < 5) : D_X8_slipsAt q (nI k) = nI (bset (fun s => decide (kd (σ s) = k)) 8) := slipsAt_l hW h hk 8 (Nat.le_refl 8)
theorem highOn_v {σ : Nat → Nat} {q : Nat → Int32} (hW : ∀ s, s < 8 → σ s < 26) (h : PGi σ q) {k : Nat} (hk : k < 3) : D_X8_highOn q (nI k) = nI (cnt σ k) := by
  unfold D_X8_highOn
  rw [slipsAt_v hW h (by omega), many_bset]
  congr 1
  unfold cnt
  apply fb_ct_cong
  intro i _
  exact decide_eq_decide.mpr (kd_k hk)
theorem slipOn_l {σ : Nat → Nat} {q : Nat → Int32} (hW : WFs σ) (h : PGi σ q) {k : Nat} (hk : k < 3) (H : Int32) : ∀ n, n ≤ 8 → ((∃ s, s < n ∧ σ s / 8 = k ∧ nI (σ s % 8) = H ∧ D_X8_slipOn_l6 (nI k) H q (-9) n = nI s) ∨ ((∀ s, s < n → σ s / 8 = k → nI (σ s % 8) ≠ H) ∧ D_X8_slipOn_l6 (nI k) H q (-9) n = -9))
  | 0, _ => Or.inr ⟨fun s hs => by omega, rfl⟩
  | n + 1, hn => by
    have ih := slipOn_l hW h hk H n (by omega)
    have hb := kd_lt (hW.1 n (by omega))
    rw [D_X8_slipOn_l6]
    unfold D_X8_slipOn_b6
    rw [cl8 (by omega), cl88 n (by omega), (h n (by omega)).1]
    by_cases hc : σ n / 8 = k
    · have hkd := (kd_k hk).mpr hc
      rw [if_pos (by rw [hkd]), (h n (by omega)).2 (by omega)]
      by_cases hh : nI (σ n % 8) = H
      · rw [if_pos hh]
        exact Or.inl ⟨n, by omega, hc, hh, rfl⟩
      · rw [if_neg hh]
        rcases ih with ⟨s, a, b, c, d⟩ | ⟨a, b⟩
        · exact Or.inl ⟨s, by omega, b, c, d⟩
        · refine Or.inr ⟨fun s hs hq => ?_, b⟩
          by_cases hsn : s = n
          · subst hsn; exact hh
          · exact a s (by omega) hq
    · rw [if_neg (fun z => hc ((kd_k hk).mp ((nI_eq (by omega) (by omega)).mp z)))]
      rcases ih with ⟨s, a, b, c, d⟩ | ⟨a, b⟩
      · exact Or.inl ⟨s, by omega, b, c, d⟩
      · refine Or.inr ⟨fun s hs hq => ?_, b⟩
        by_cases hsn : s = n
        · subst hsn; exact absurd hq hc
        · exact a s (by omega) hq
theorem slipOn_v {σ : Nat → Nat} {q : Nat → Int32} (hW : WFs σ) (h : PGi σ q) {k : Nat} (hk : k < 3) (H : Int32) : (∃ s, s < 8 ∧ σ s / 8 = k ∧ nI (σ s % 8) = H ∧ D_X8_slipOn q (nI k) H = nI s) ∨ ((∀ s, s < 8 → σ s / 8 = k → nI (σ s % 8) ≠ H) ∧ D_X8_slipOn q (nI k) H = -9) := slipOn_l hW h hk H 8 (Nat.le_refl 8)
theorem slipOn_hit {σ : Nat → Nat} {q : Nat → Int32} (hW : WFs σ) (h : PGi σ q) {k x s : Nat} (hk : k < 3) (hx : x < 8) (hs : s < 8) (he : σ s = 8 * k + x) : D_X8_slipOn q (nI k) (nI x) = nI s := by
  rcases slipOn_v hW h hk (nI x) with ⟨t, a, b, c, d⟩ | ⟨a, _⟩
  · rw [d]
    have := (nI_eq (by omega) (by omega)).mp c
    congr 1
    exact hW.2.1 t s a hs (by omega) (by omega)
  · exact absurd (by rw [he, show (8 * k + x) % 8 = x by omega]) (a s hs (by omega))
/-! what the model does to a page -/
theorem pg_away {σ : Nat → Nat} {q : Nat → Int32} (h : PGi σ q) {s v : Nat} (hs : s < 8) (h1 : 24 ≤ v) : PGi (us σ s v) (D_X8_goAway q (nI s) (nI (v - 21))) := by
  intro t ht
  unfold D_X8_goAway
  rw [cl8 hs, cl88 s hs]
  by_cases hts : t = s
  · subst hts
    rw [us_s, up_n _ _ (by omega), up_s]
    refine ⟨?_, fun z => by omega⟩
    unfold kd
    rw [if_neg (by omega)]
  · rw [us_n _ _ hts, up_n _ _ (by omega), up_n _ _ (by omega)]
    refine ⟨(h t ht).1, fun z => ?_⟩
    rw [up_n _ _ (by omega), up_n _ _ (by omega)]
    exact (h t ht).2 z
theorem away_16 (q : Nat → Int32) {s : Nat} (hs : s < 8) (v : Int32) : D_X8_goAway q (nI s) v 16 = q 16 := by
  unfold D_X8_goAway
  rw [cl8 hs, cl88 s hs, up_n _ _ (by omega), up_n _ _ (by omega)]
theorem pg_put {σ : Nat → Nat} {q : Nat → Int32} (hW : ∀ s, s < 8 → σ s < 26) (h : PGi σ q) {s k : Nat} (hs : s < 8) (hk : k < 3) (hn : cnt σ k < 8) : PGi (us σ s (8 * k + cnt σ k)) (D_X8_goPut q (nI s) (nI k)) := by
  intro t ht
  unfold D_X8_goPut
  rw [cl8 hs, cl88 s hs, highOn_v hW h hk]
  by_cases hts : t = s
  · subst hts
    rw [us_s, up_s]
    refine ⟨?_, fun z => ?_⟩
    · rw [(kd_k hk).mpr (by omega)]
    · rw [up_n _ _ (by omega), up_s, show (8 * k + cnt σ k) % 8 = cnt σ k by omega]
  · rw [us_n _ _ hts, up_n _ _ (by omega), up_n _ _ (by omega)]
    refine ⟨(h t ht).1, fun z => ?_⟩
    rw [up_n _ _ (by omega), up_n _ _ (by omega)]
    exact (h t ht).2 z
theorem put_16 (q : Nat → Int32) {s : Nat} (hs : s < 8) (v : Int32) : D_X8_goPut q (nI s) v 16 = q 16 := by
  unfold D_X8_goPut
  rw [cl8 hs, cl88 s hs, up_n _ _ (by omega), up_n _ _ (by omega)]
theorem nightIn_l (q : Nat → Int32) (k : Nat) : ∀ n, n ≤ 8 → (∀ t, (t < 8 ∨ 8 + n ≤ t) → D_X8_goNight_l31 k q n t = q t) ∧ ∀ i, i < n → D_X8_goNight_l31 k q n (8 + i) = q (8 + i) - (if q i = nI k then 1 else 0)
  | 0, _ => ⟨fun t _ => rfl, fun i hi => by omega⟩
  | n + 1, hn => by
    obtain ⟨h1, h2⟩ := nightIn_l q k n (by omega)
    have hstep : D_X8_goNight_l31 k q (n + 1) = upd (D_X8_goNight_l31 k q n) (8 + n) (q (8 + n) - (if q n = nI k then 1 else 0)) := by
      rw [D_X8_goNight_l31]
      unfold D_X8_goNight_b31 D_X8_goNight_j56
      rw [cl8 (by omega), cl88 n (by omega), h1 n (Or.inl (by omega)), h1 (8 + n) (Or.inr (by omega))]
      split <;> rfl
    rw [hstep]
    refine ⟨fun t ht => ?_, fun i hi => ?_⟩
    · rw [up_n _ _ (by omega)]
      exact h1 t (by omega)
    · by_cases hin : i = n
      · subst hin
        rw [up_s]
      · rw [up_n _ _ (by omega)]
        exact h2 i (by omega)
theorem pg_night1 {σ : Nat → Nat} {q : Nat → Int32} (hW : WFs σ) (h : PGi σ q) {k s : Nat} (hk : k < 3) (hs : s < 8) (he : σ s = 8 * k) : PGi (nt1 σ k) (D_X8_goNight_l31 k (D_X8_goAway q (nI s) 4) 8) ∧ D_X8_goNight_l31 k (D_X8_goAway q (nI s) 4) 8 16 = q 16 := by
  have hA := pg_away h hs (v := 25) (by omega)
  rw [show nI (25 - 21) = 4 from rfl] at hA
  obtain ⟨h1, h2⟩ := nightIn_l (D_X8_goAway q (nI s) 4) k 8 (Nat.le_refl 8)
  refine ⟨fun t ht => ?_, ?_⟩
  · rw [h1 t (Or.inl ht), h2 t ht, (hA t ht).1]
    by_cases hts : t = s
    · subst hts
      rw [us_s, nt1_in (by omega), if_pos (by omega)]
      exact ⟨rfl, fun z => by omega⟩
    · rw [us_n _ _ hts]
      have hb := kd_lt (hW.1 t ht)
      by_cases hc : σ t / 8 = k
      · have hnz : ¬ σ t % 8 = 0 := fun z => hts (hW.2.1 t s ht hs (by omega) (by omega))
        rw [nt1_in hc, if_neg hnz]
        have e1 : kd (σ t) = k := (kd_k hk).mpr hc
        have e2 : kd (σ t - 1) = k := (kd_k hk).mpr (by omega)
        rw [e1, e2]
        refine ⟨rfl, fun _ => ?_⟩
        have h3 := (hA t ht).2
        rw [us_n _ _ hts] at h3
        rw [h3 (by omega), if_pos rfl]
        have e3 : nI (σ t % 8) - 1 = nI (σ t % 8 - 1) := pk_sub (a := σ t % 8) (b := 1) (by omega)
        rw [e3]
        congr 1
        omega
      · rw [nt1_out hc]
        refine ⟨rfl, fun z => ?_⟩
        have h3 := (hA t ht).2
        rw [us_n _ _ hts] at h3
        rw [h3 z, if_neg (fun y => hc ((kd_k hk).mp ((nI_eq (by omega) (by omega)).mp y)))]
        exact Int32.sub_zero _
  · rw [h1 16 (Or.inr (by omega)), away_16 q hs]
def nts (σ : Nat → Nat) : Nat → (Nat → Nat)
  | 0 => σ
  | k + 1 => if cnt (nts σ k) k < 3 then nts σ k else nt1 (nts σ k) k
def eat (σ : Nat → Nat) : Nat → Nat
  | 0 => 0
  | k + 1 => if cnt (nts σ k) k < 3 then eat σ k else eat σ k + 1
theorem eat_le (σ : Nat → Nat) : ∀ n, eat σ n ≤ n
  | 0 => Nat.le_refl 0
  | n + 1 => by
    have := eat_le σ n
    rw [eat]
    split <;> omega
theorem wf_nts {σ : Nat → Nat} (h : WFs σ) : ∀ k, k ≤ 3 → WFs (nts σ k)
  | 0, _ => h
  | k + 1, hk => by
    rw [nts]
    split
    · exact wf_nts h k (by omega)
    · exact wf_night (wf_nts h k (by omega)) (by omega) (by omega)
theorem lt3 {n : Nat} (h : n < 1000) : (nI n < 3) ↔ n < 3 := nI_ltI (by omega) (b := 3) (by omega)
theorem pg_nts {σ : Nat → Nat} {q : Nat → Int32} (hW : WFs σ) (h : PGi σ q) : ∀ k, k ≤ 3 → PGi (nts σ k) (D_X8_goNight_l4 0 q k).2 ∧ (D_X8_goNight_l4 0 q k).1 = nI (eat σ k) ∧ (D_X8_goNight_l4 0 q k).2 16 = q 16
  | 0, _ => ⟨h, rfl, rfl⟩
  | k + 1, hk => by
    obtain ⟨h1, h2, h3⟩ := pg_nts hW h k (by omega)
    have hW1 := wf_nts hW k (by omega)
    have hh := highOn_v hW1.1 h1 (k := k) (by omega)
    have hc8 := cnt_le (nts σ k) k
    rw [D_X8_goNight_l4, nts, eat]
    unfold D_X8_goNight_b4 D_X8_goNight_k31
    rw [hh]
    by_cases hc : cnt (nts σ k) k < 3
    · rw [if_pos ((lt3 (by omega)).mpr hc), if_pos hc, if_pos hc]
      exact ⟨h1, h2, h3⟩
    · rw [if_neg (fun z => hc ((lt3 (by omega)).mp z)), if_neg hc, if_neg hc]
      obtain ⟨s, hs, he⟩ := hW1.2.2.2 k 0 (by omega) (by omega)
      have hsl := slipOn_hit hW1 h1 (k := k) (x := 0) (by omega) (by omega) hs he
      have hsl' : D_X8_slipOn (D_X8_goNight_l4 0 q k).2 (nI k) 0 = nI s := hsl
      rw [hsl']
      obtain ⟨h4, h5⟩ := pg_night1 hW1 h1 (k := k) (by omega) hs he
      dsimp only
      rw [h5, h3, h2]
      exact ⟨h4, nI_1 _, rfl⟩
theorem WFp_NightOK {q : Nat → Int32} (h : WFp q) : NightOK q := by
  obtain ⟨σ, hW, hP⟩ := h
  intro k hk hc
  obtain ⟨h1, -, -⟩ := pg_nts hW hP k (by omega)
  have hW1 := wf_nts hW k (by omega)
  have hc8 := cnt_le (nts σ k) k
  rw [highOn_v hW1.1 h1 hk] at hc
  have hc2 : ¬ cnt (nts σ k) k < 3 := fun z => hc ((lt3 (by omega)).mpr z)
  obtain ⟨s, hs, he⟩ := hW1.2.2.2 k 0 hk (by omega)
  have hsl := slipOn_hit hW1 h1 (k := k) (x := 0) hk (by omega) hs he
  have hsl' : D_X8_slipOn (D_X8_goNight_l4 0 q k).2 (nI k) 0 = nI s := hsl
  rw [hsl']
  exact vp_in_nI hs (by decide)
theorem pg_night {σ : Nat → Nat} {q : Nat → Int32} (hW : WFs σ) (h : PGi σ q) : PGi (nts σ 3) (D_X8_goNight q).2 ∧ (D_X8_goNight q).1 = nI (eat σ 3) ∧ (D_X8_goNight q).2 16 = q 16 + 1 := by
  obtain ⟨h1, h2, h3⟩ := pg_nts hW h 3 (Nat.le_refl 3)
  unfold D_X8_goNight D_X8_goNight_k4
  rw [cl16]
  refine ⟨fun t ht => ?_, h2, ?_⟩
  · show upd (D_X8_goNight_l4 0 q 3).2 16 ((D_X8_goNight_l4 0 q 3).2 16 + 1) t = _ ∧ (_ → upd (D_X8_goNight_l4 0 q 3).2 16 ((D_X8_goNight_l4 0 q 3).2 16 + 1) (8 + t) = _)
    rw [up_n _ _ (by omega), up_n _ _ (by omega)]
    exact h1 t ht
  · show upd (D_X8_goNight_l4 0 q 3).2 16 ((D_X8_goNight_l4 0 q 3).2 16 + 1) 16 = q 16 + 1
    rw [up_s, h3]
theorem audit_l (q0 q : Nat → Int32) (k : Int32) : ∀ n, n ≤ 8 → (∀ t, (t < 8 ∨ 8 + n ≤ t) → D_X8_goAudit_l8 k q0 q n t = q t) ∧ ∀ i, i < n → D_X8_goAudit_l8 k q0 q n (8 + i) = if q i = k then D_X8_highOn q0 k - 1 - q (8 + i) else q (8 + i)
  | 0, _ => ⟨fun t _ => rfl, fun i hi => by omega⟩
  | n + 1, hn => by
    obtain ⟨h1, h2⟩ := audit_l q0 q k n (by omega)
    have hstep : D_X8_goAudit_l8 k q0 q (n + 1) = upd (D_X8_goAudit_l8 k q0 q n) (8 + n) (if q n = k then D_X8_highOn q0 k - 1 - q (8 + n) else q (8 + n)) := by
      rw [D_X8_goAudit_l8]
      unfold D_X8_goAudit_b8 D_X8_goAudit_j45
      rw [cl8 (by omega), cl88 n (by omega), h1 n (Or.inl (by omega)), h1 (8 + n) (Or.inr (by omega))]
      split <;> rfl
    rw [hstep]
    refine ⟨fun t ht => ?_, fun i hi => ?_⟩
    · rw [up_n _ _ (by omega)]
      exact h1 t (by omega)
    · by_cases hin : i = n
      · subst hin
        rw [up_s]
      · rw [up_n _ _ (by omega)]
        exact h2 i (by omega)
theorem pg_audit {σ : Nat → Nat} {q : Nat → Int32} (hW : WFs σ) (h : PGi σ q) {k : Nat} (hk : k < 3) : PGi (aud σ k) (D_X8_goAudit q (nI k)) ∧ D_X8_goAudit q (nI k) 16 = q 16 := by
  obtain ⟨h1, h2⟩ := audit_l q q (nI k) 8 (Nat.le_refl 8)
  unfold D_X8_goAudit D_X8_goAudit_k8
  generalize D_X8_goAudit_l8 (nI k) q q 8 = f at h1 h2 ⊢
  refine ⟨fun t ht => ?_, h1 16 (Or.inr (by omega))⟩
  have hb := kd_lt (hW.1 t ht)
  have hn8 := cnt_le σ k
  rw [h1 t (Or.inl ht), h2 t ht, (h t ht).1, highOn_v hW.1 h hk]
  by_cases hc : σ t / 8 = k
  · have h3 := hW.2.2.1 t ht (by omega)
    rw [hc] at h3
    rw [aud_in hc, (kd_k hk).mpr hc, (kd_k hk).mpr (by omega : (8 * k + (cnt σ k - 1 - σ t % 8)) / 8 = k)]
    refine ⟨rfl, fun _ => ?_⟩
    rw [if_pos rfl, (h t ht).2 (by omega)]
    have e1 : nI (cnt σ k) - 1 = nI (cnt σ k - 1) := pk_sub (a := cnt σ k) (b := 1) (by omega)
    rw [e1, pk_sub (by omega)]
    congr 1
    omega
  · rw [aud_out hc]
    refine ⟨rfl, fun z => ?_⟩
    rw [if_neg (fun y => hc ((kd_k hk).mp ((nI_eq (by omega) (by omega)).mp y)))]
    exact (h t ht).2 z
theorem begin_l (page : Nat → Int32) (tr : Nat → Int32) : ∀ n, n ≤ 17 → ∀ t, t < n → D_X8_begin_l2 page tr n t = page t
  | 0, _ => fun t ht => by omega
  | n + 1, hn => by
    intro t ht
    rw [D_X8_begin_l2]
    unfold D_X8_begin_b2
    rw [nI_clamp (by omega)]
    by_cases htn : t = n
    · subst htn
      rw [up_s]
    · rw [up_n _ _ htn]
      exact begin_l page tr n (by omega) t (by omega)
theorem begin_v (page tr : Nat → Int32) {t : Nat} (ht : t < 17) : D_X8_begin page tr t = page t := begin_l page tr 17 (Nat.le_refl 17) t ht
theorem pg_begin {σ : Nat → Nat} {page tr : Nat → Int32} (h : PGi σ page) : PGi σ (D_X8_begin page tr) := by
  intro t ht
  rw [begin_v _ _ (by omega), begin_v _ _ (by omega)]
  exact h t ht
theorem WFp_begin {page tr : Nat → Int32} (h : WFp page) : WFp (D_X8_begin page tr) := by
  obtain ⟨σ, hW, hP⟩ := h
  exact ⟨σ, hW, pg_begin hP⟩
theorem WFp_night {q : Nat → Int32} (h : WFp q) : WFp (D_X8_goNight q).2 := by
  obtain ⟨σ, hW, hP⟩ := h
  exact ⟨_, wf_nts hW 3 (Nat.le_refl 3), (pg_night hW hP).1⟩
