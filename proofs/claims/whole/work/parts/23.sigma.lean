-- rows pasted from the kit's COUNTS and NUMBERS
def fb_ct (p : Nat → Bool) : Nat → Nat
  | 0 => 0
  | n + 1 => fb_ct p n + (if p n then 1 else 0)
theorem fb_ct_succ (p : Nat → Bool) (n : Nat) : fb_ct p (n + 1) = fb_ct p n + (if p n then 1 else 0) := rfl
theorem fb_ct_le (p : Nat → Bool) : ∀ n, fb_ct p n ≤ n
  | 0 => Nat.le_refl _
  | n + 1 => by
    have h := fb_ct_le p n
    rw [fb_ct_succ]
    split <;> omega
theorem fb_ct_step (p : Nat → Bool) (m : Nat) : ∀ n, fb_ct p m ≤ fb_ct p (m + n)
  | 0 => Nat.le_refl _
  | n + 1 => by
    have h := fb_ct_step p m n
    show fb_ct p m ≤ fb_ct p (m + n + 1)
    rw [fb_ct_succ]
    omega
theorem fb_ct_mono (p : Nat → Bool) {m n : Nat} (h : m ≤ n) : fb_ct p m ≤ fb_ct p n := by
  have := fb_ct_step p m (n - m)
  rwa [Nat.add_sub_cancel' h] at this
theorem fb_ct_cong {p q : Nat → Bool} : ∀ {n : Nat}, (∀ k, k < n → p k = q k) → fb_ct p n = fb_ct q n
  | 0, _ => rfl
  | n + 1, h => by
    rw [fb_ct_succ, fb_ct_succ, fb_ct_cong (fun k hk => h k (by omega)), h n (by omega)]
/-- one place changed -/
theorem fb_ct_out (p : Nat → Bool) (b : Bool) {i n : Nat} (h : n ≤ i) : fb_ct (fun k => if k = i then b else p k) n = fb_ct p n :=
  fb_ct_cong fun k hk => if_neg (by omega)
theorem fb_ct_upd (p : Nat → Bool) (b : Bool) {i : Nat} : ∀ {n : Nat}, i < n → fb_ct (fun k => if k = i then b else p k) n + (if p i then 1 else 0) = fb_ct p n + (if b then 1 else 0)
  | 0, h => absurd h (Nat.not_lt_zero i)
  | n + 1, h => by
    rw [fb_ct_succ, fb_ct_succ]
    rcases Nat.lt_or_ge i n with q | q
    · have := fb_ct_upd p b q
      have e : (if n = i then b else p n) = p n := if_neg (by omega)
      rw [e]
      omega
    · have e : i = n := by omega
      subst e
      rw [fb_ct_out p b (Nat.le_refl _)]
      simp only [if_true]
      omega
theorem fb_ct_zero {p : Nat → Bool} : ∀ {n : Nat}, fb_ct p n = 0 ↔ ∀ k, k < n → p k = false
  | 0 => ⟨fun _ k hk => absurd hk (Nat.not_lt_zero k), fun _ => rfl⟩
  | n + 1 => by
    have h := fb_ct_zero (p := p) (n := n)
    rw [fb_ct_succ]
    constructor
    · intro e k hk
      have e1 : fb_ct p n = 0 := by omega
      rcases Nat.lt_or_ge k n with q | q
      · exact h.mp e1 k q
      · have ek : k = n := by omega
        subst ek
        cases hp : p k
        · rfl
        · simp [hp] at e
    · intro a
      rw [h.mpr (fun k hk => a k (by omega)), a n (by omega)]
      rfl
theorem fb_ct_pos {p : Nat → Bool} {n : Nat} : 0 < fb_ct p n ↔ ∃ k, k < n ∧ p k = true := by
  constructor
  · intro h
    refine Classical.byContradiction fun hx => ?_
    have := fb_ct_zero.mpr (fun k hk => by
      cases hp : p k
      · rfl
      · exact absurd ⟨k, hk, hp⟩ hx : ∀ k, k < n → p k = false)
    omega
  · rintro ⟨k, hk, hp⟩
    rcases Nat.eq_zero_or_pos (fb_ct p n) with e | e
    · have := fb_ct_zero.mp e k hk
      rw [this] at hp
      cases hp
    · exact e
theorem fa_and (a b : Nat) : nI a &&& nI b = nI (a &&& b) := by
  apply Int32.toBitVec_inj.1
  show BitVec.ofNat 32 a &&& BitVec.ofNat 32 b = BitVec.ofNat 32 (a &&& b)
  apply BitVec.eq_of_getLsbD_eq
  intro i hi
  simp [hi]
theorem fa_or (a b : Nat) : nI a ||| nI b = nI (a ||| b) := by
  apply Int32.toBitVec_inj.1
  show BitVec.ofNat 32 a ||| BitVec.ofNat 32 b = BitVec.ofNat 32 (a ||| b)
  apply BitVec.eq_of_getLsbD_eq
  intro i hi
  simp [hi]
/-! the mathematical town: each slip's spot (8 times its spike and its height; 24 in hand; 25 gone) -/
def kd (v : Nat) : Nat := if v < 24 then v / 8 else v - 21
def cnt (σ : Nat → Nat) (k : Nat) : Nat := fb_ct (fun s => decide (σ s / 8 = k)) 8
def us (σ : Nat → Nat) (s v : Nat) : Nat → Nat := fun t => if t = s then v else σ t
theorem us_s (σ : Nat → Nat) (s v : Nat) : us σ s v s = v := if_pos rfl
theorem us_n (σ : Nat → Nat) {s t : Nat} (v : Nat) (h : t ≠ s) : us σ s v t = σ t := if_neg h
def WFs (σ : Nat → Nat) : Prop := (∀ s, s < 8 → σ s < 26) ∧ (∀ s t, s < 8 → t < 8 → σ s < 24 → σ s = σ t → s = t) ∧ (∀ s, s < 8 → σ s < 24 → σ s % 8 < cnt σ (σ s / 8)) ∧ (∀ k h, k < 3 → h < cnt σ k → ∃ s, s < 8 ∧ σ s = 8 * k + h)
theorem cnt_le (σ : Nat → Nat) (k : Nat) : cnt σ k ≤ 8 := fb_ct_le _ 8
theorem cnt_us (σ : Nat → Nat) {s : Nat} (v k : Nat) (hs : s < 8) : cnt (us σ s v) k + (if σ s / 8 = k then 1 else 0) = cnt σ k + (if v / 8 = k then 1 else 0) := by
  have h := fb_ct_upd (fun t => decide (σ t / 8 = k)) (decide (v / 8 = k)) hs
  simp only [decide_eq_true_eq] at h
  rw [← show cnt σ k = fb_ct (fun t => decide (σ t / 8 = k)) 8 from rfl] at h
  rw [← h]
  congr 1
  unfold cnt
  apply fb_ct_cong
  intro t _
  unfold us
  split <;> rfl
theorem wf_off {σ : Nat → Nat} (h : WFs σ) {s v : Nat} (hs : s < 8) (h1 : 24 ≤ σ s) (h2 : 24 ≤ v) (h3 : v < 26) : WFs (us σ s v) := by
  obtain ⟨a, b, c, d⟩ := h
  have hc : ∀ k, k < 3 → cnt (us σ s v) k = cnt σ k := by
    intro k hk
    have h4 := cnt_us σ v k hs
    rw [if_neg (by omega), if_neg (by omega)] at h4
    exact h4
  refine ⟨fun t ht => ?_, fun t t' ht ht' => ?_, fun t ht => ?_, fun k x hk hx => ?_⟩
  · unfold us; split
    · exact h3
    · exact a t ht
  · unfold us
    split <;> split
    · intros; omega
    · intros; omega
    · intros; omega
    · exact b t t' ht ht'
  · unfold us at hc ⊢
    split
    · intro; omega
    · intro h5
      rw [hc _ (by omega)]
      exact c t ht h5
  · rw [hc k hk] at hx
    obtain ⟨t, ht, he⟩ := d k x hk hx
    have := cnt_le σ k
    exact ⟨t, ht, by rw [us_n _ _ (fun z => by subst z; omega)]; exact he⟩
theorem wf_put {σ : Nat → Nat} (h : WFs σ) {s k : Nat} (hs : s < 8) (hk : k < 3) (h1 : σ s = 24) : WFs (us σ s (8 * k + cnt σ k)) ∧ cnt σ k < 8 := by
  obtain ⟨a, b, c, d⟩ := h
  have hn : cnt σ k < 8 := by
    have h4 := cnt_us σ (8 * k) k hs
    rw [if_neg (by omega), if_pos (by omega)] at h4
    have := cnt_le (us σ s (8 * k)) k
    omega
  have hc : ∀ k', k' < 3 → cnt (us σ s (8 * k + cnt σ k)) k' = cnt σ k' + (if k' = k then 1 else 0) := by
    intro k' hk'
    have h4 := cnt_us σ (8 * k + cnt σ k) k' hs
    rw [if_neg (by omega)] at h4
    by_cases hkk : k' = k
    · rw [if_pos (by omega)] at h4
      rw [if_pos hkk]
      omega
    · rw [if_neg (by omega)] at h4
      rw [if_neg hkk]
      omega
  refine ⟨⟨fun t ht => ?_, fun t t' ht ht' => ?_, fun t ht => ?_, fun k' x hk' hx => ?_⟩, hn⟩
  · unfold us; split
    · omega
    · exact a t ht
  · unfold us
    split <;> split
    · intros; omega
    · intro q1 q2
      have := c t' ht' (by omega)
      rw [← q2, show (8 * k + cnt σ k) / 8 = k by omega] at this
      omega
    · intro q1 q2
      have := c t ht (by omega)
      rw [q2, show (8 * k + cnt σ k) / 8 = k by omega] at this
      omega
    · exact b t t' ht ht'
  · intro h5
    by_cases hts : t = s
    · subst hts
      rw [us_s] at h5 ⊢
      rw [show (8 * k + cnt σ k) / 8 = k by omega, hc k hk, if_pos rfl]
      omega
    · rw [us_n _ _ hts] at h5 ⊢
      have := c t ht h5
      rw [hc _ (by omega)]
      omega
  · rw [hc k' hk'] at hx
    by_cases hkk : k' = k ∧ x = cnt σ k
    · exact ⟨s, hs, by rw [us_s, hkk.1, hkk.2]⟩
    · have hx2 : x < cnt σ k' := by
        by_cases h6 : k' = k
        · rw [if_pos h6] at hx
          subst h6
          omega
        · rw [if_neg h6] at hx
          exact hx
      obtain ⟨t, ht, he⟩ := d k' x hk' hx2
      have := cnt_le σ k'
      exact ⟨t, ht, by rw [us_n _ _ (fun z => by subst z; omega)]; exact he⟩
theorem wf_take {σ : Nat → Nat} (h : WFs σ) {s k n : Nat} (hs : s < 8) (hk : k < 3) (hn : cnt σ k = n + 1) (h1 : σ s = 8 * k + n) : WFs (us σ s 24) := by
  obtain ⟨a, b, c, d⟩ := h
  have hn8 := cnt_le σ k
  have hc : ∀ k', k' < 3 → cnt (us σ s 24) k' + (if k' = k then 1 else 0) = cnt σ k' := by
    intro k' hk'
    have h4 := cnt_us σ 24 k' hs
    rw [if_neg (show ¬ 24 / 8 = k' by omega)] at h4
    by_cases hkk : k' = k
    · rw [if_pos (by omega)] at h4
      rw [if_pos hkk]
      omega
    · rw [if_neg (by omega)] at h4
      rw [if_neg hkk]
      omega
  refine ⟨fun t ht => ?_, fun t t' ht ht' => ?_, fun t ht => ?_, fun k' x hk' hx => ?_⟩
  · unfold us; split
    · omega
    · exact a t ht
  · unfold us
    split <;> split
    · intros; omega
    · intros; omega
    · intros; omega
    · exact b t t' ht ht'
  · intro h5
    by_cases hts : t = s
    · subst hts
      rw [us_s] at h5
      omega
    · rw [us_n _ _ hts] at h5 ⊢
      have h6 := c t ht h5
      have h7 := hc (σ t / 8) (by omega)
      by_cases hkk : σ t / 8 = k
      · rw [if_pos hkk] at h7
        have h8 : σ t ≠ σ s := fun z => hts (b t s ht hs h5 z)
        rw [hkk] at h6 h7 ⊢
        omega
      · rw [if_neg hkk] at h7
        omega
  · have h7 := hc k' hk'
    have hx2 : x < cnt σ k' := by omega
    obtain ⟨t, ht, he⟩ := d k' x hk' hx2
    have hts : t ≠ s := by
      intro z
      subst z
      have h9 := cnt_le σ k'
      have : k' = k := by omega
      rw [if_pos this] at h7
      subst this
      omega
    exact ⟨t, ht, by rw [us_n _ _ hts]; exact he⟩
def nt1 (σ : Nat → Nat) (k : Nat) : Nat → Nat := fun t => if σ t / 8 = k then (if σ t % 8 = 0 then 25 else σ t - 1) else σ t
theorem nt1_in {σ : Nat → Nat} {k t : Nat} (h : σ t / 8 = k) : nt1 σ k t = if σ t % 8 = 0 then 25 else σ t - 1 := if_pos h
theorem nt1_out {σ : Nat → Nat} {k t : Nat} (h : ¬ σ t / 8 = k) : nt1 σ k t = σ t := if_neg h
theorem wf_night {σ : Nat → Nat} (h : WFs σ) {k : Nat} (hk : k < 3) (hn : 0 < cnt σ k) : WFs (nt1 σ k) := by
  obtain ⟨a, b, c, d⟩ := h
  obtain ⟨s, hs, he⟩ := d k 0 hk hn
  have hn8 := cnt_le σ k
  have hck : cnt (nt1 σ k) k + 1 = cnt σ k := by
    have h4 := fb_ct_upd (fun t => decide (σ t / 8 = k)) false hs
    simp only [decide_eq_true_eq, Bool.false_eq_true, if_false] at h4
    rw [if_pos (by omega : σ s / 8 = k)] at h4
    have h5 : fb_ct (fun t => decide (σ t / 8 = k)) 8 = cnt σ k := rfl
    suffices h6 : cnt (nt1 σ k) k = fb_ct (fun t => if t = s then false else decide (σ t / 8 = k)) 8 by omega
    unfold cnt
    apply fb_ct_cong
    intro t ht
    by_cases hts : t = s
    · subst hts
      rw [if_pos rfl, nt1_in (by omega), if_pos (by omega)]
      exact decide_eq_false (by omega)
    · rw [if_neg hts]
      by_cases h5 : σ t / 8 = k
      · have h6 : ¬ σ t % 8 = 0 := fun z => hts (b t s ht hs (by omega) (by omega))
        rw [nt1_in h5, if_neg h6]
        exact decide_eq_decide.mpr (by omega)
      · rw [nt1_out h5]
  have hc : ∀ k', k' < 3 → k' ≠ k → cnt (nt1 σ k) k' = cnt σ k' := by
    intro k' hk' hkk
    unfold cnt
    apply fb_ct_cong
    intro t ht
    by_cases h5 : σ t / 8 = k
    · rw [nt1_in h5]
      split
      · exact decide_eq_decide.mpr (by omega)
      · exact decide_eq_decide.mpr (by omega)
    · rw [nt1_out h5]
  refine ⟨fun t ht => ?_, fun t t' ht ht' => ?_, fun t ht => ?_, fun k' x hk' hx => ?_⟩
  · have := a t ht
    unfold nt1
    split
    · split <;> omega
    · exact this
  · have h5 := b t t' ht ht'
    unfold nt1
    split <;> split <;> (try split) <;> (try split) <;> intros <;> (try omega)
    all_goals exact h5 (by omega) (by omega)
  · intro h5
    by_cases h6 : σ t / 8 = k
    · rw [nt1_in h6] at h5 ⊢
      by_cases h7 : σ t % 8 = 0
      · rw [if_pos h7] at h5
        omega
      · rw [if_neg h7] at h5 ⊢
        have := c t ht (by omega)
        rw [show (σ t - 1) / 8 = k by omega]
        rw [h6] at this
        omega
    · rw [nt1_out h6] at h5 ⊢
      rw [hc _ (by omega) h6]
      exact c t ht h5
  · by_cases hkk : k' = k
    · subst hkk
      obtain ⟨t, ht, het⟩ := d k' (x + 1) hk' (by omega)
      exact ⟨t, ht, by rw [nt1_in (by omega), if_neg (by omega)]; omega⟩
    · rw [hc k' hk' hkk] at hx
      obtain ⟨t, ht, het⟩ := d k' x hk' hx
      have := cnt_le σ k'
      exact ⟨t, ht, by rw [nt1_out (by omega)]; exact het⟩
def aud (σ : Nat → Nat) (k : Nat) : Nat → Nat := fun t => if σ t / 8 = k then 8 * k + (cnt σ k - 1 - σ t % 8) else σ t
theorem aud_in {σ : Nat → Nat} {k t : Nat} (h : σ t / 8 = k) : aud σ k t = 8 * k + (cnt σ k - 1 - σ t % 8) := if_pos h
theorem aud_out {σ : Nat → Nat} {k t : Nat} (h : ¬ σ t / 8 = k) : aud σ k t = σ t := if_neg h
theorem wf_audit {σ : Nat → Nat} (h : WFs σ) {k : Nat} (hk : k < 3) : WFs (aud σ k) ∧ cnt (aud σ k) k = cnt σ k := by
  obtain ⟨a, b, c, d⟩ := h
  have hn8 := cnt_le σ k
  have hc : ∀ k', k' < 3 → cnt (aud σ k) k' = cnt σ k' := by
    intro k' hk'
    unfold cnt
    apply fb_ct_cong
    intro t ht
    by_cases h5 : σ t / 8 = k
    · rw [aud_in h5]
      have := c t ht (by omega)
      exact decide_eq_decide.mpr (by omega)
    · rw [aud_out h5]
  refine ⟨⟨fun t ht => ?_, fun t t' ht ht' => ?_, fun t ht => ?_, fun k' x hk' hx => ?_⟩, hc k hk⟩
  · have := a t ht
    unfold aud
    split <;> omega
  · have h5 := b t t' ht ht'
    have h6 := c t ht
    have h7 := c t' ht'
    intro q1 q2
    by_cases h8 : σ t / 8 = k
    · rw [aud_in h8] at q1 q2
      by_cases h9 : σ t' / 8 = k
      · rw [aud_in h9] at q2
        have e1 := h6 (by omega)
        have e2 := h7 (by omega)
        rw [h8] at e1
        rw [h9] at e2
        exact h5 (by omega) (by omega)
      · rw [aud_out h9] at q2
        omega
    · rw [aud_out h8] at q1 q2
      by_cases h9 : σ t' / 8 = k
      · rw [aud_in h9] at q2
        omega
      · rw [aud_out h9] at q2
        exact h5 q1 q2
  · intro h5
    by_cases h6 : σ t / 8 = k
    · rw [aud_in h6] at h5 ⊢
      have := c t ht (by omega)
      rw [show (8 * k + (cnt σ k - 1 - σ t % 8)) / 8 = k by omega, hc k hk]
      rw [h6] at this
      omega
    · rw [aud_out h6] at h5 ⊢
      rw [hc _ (by omega)]
      exact c t ht h5
  · rw [hc k' hk'] at hx
    by_cases hkk : k' = k
    · subst hkk
      obtain ⟨t, ht, het⟩ := d k' (cnt σ k' - 1 - x) hk' (by omega)
      exact ⟨t, ht, by rw [aud_in (by omega)]; omega⟩
    · obtain ⟨t, ht, het⟩ := d k' x hk' hx
      have := cnt_le σ k'
      exact ⟨t, ht, by rw [aud_out (by omega)]; exact het⟩
