/-! what the two sides have in common -/
def RT (lt : Nat → Int32) (lc : Int32) (tx : Nat → Int32) (ts : Int32) : Prop := lt = tx ∧ lc = ts ∧ inR ts 48
def IM (n : Nat) (σ : Nat → Nat) (m : Nat) (sp : Nat → Int32) (nt : Int32) (pg : Nat → Int32) : Prop := m ≤ n ∧ WFs σ ∧ (∀ s, s < 8 → sp s = nI (σ s)) ∧ nt = nI m ∧ PGi σ pg ∧ pg 16 = nI m
def RS (n : Nat) (sp : Nat → Int32) (nt : Int32) (pg : Nat → Int32) : Prop := ∃ σ m, IM n σ m sp nt pg
def RG (kn gr : Nat → Int32) (c : Int32) (th : Int32) (kd gd : Nat → Int32) : Prop := c = th ∧ inR th 6 ∧ ∀ t, t < th.toNatClampNeg → kn t = kd t ∧ (∃ v, v < 4 ∧ kd t = nI v) ∧ ∀ j, j < 3 → gr (3 * t + j) = gd (3 * t + j) ∧ ∃ x, gd (3 * t + j) = nI x ∧ (x < 8 ∨ (10 ≤ x ∧ x < 10 + t))
def RP (n : Nat) (v : Int64) (row : Nat → Int32) : Prop := ∃ σ m, m ≤ n ∧ WFs σ ∧ v = D_X4_packed (fun s => nI (σ s)) (nI m) ∧ PGi σ row ∧ row 16 = nI m
def RA (n : Nat) (bf : Nat → Int64) (ac : Int32) (bk : Nat → Int32) (acts : Int32) : Prop := ac = acts ∧ inR acts 14 ∧ ∀ j, j < acts.toNatClampNeg → RP n (bf j) (fun t => bk (17 * j + t))
def RO (sw an : Nat → Int32) (oc : Int32) (st so : Nat → Int32) (sn : Int32) : Prop := oc = sn ∧ inR sn 6 ∧ ∀ j, j < sn.toNatClampNeg → sw j = st j ∧ an j = so j ∧ (so j = 0 ∨ so j = 1)
def RL' (n : Nat) (kp : Nat → Int64) (fl : Nat → Int32) (kt ik : Nat → Int32) : Prop := ∀ j, j < 2 → fl j = ik j ∧ (ik j = 0 ∨ ik j = 1) ∧ (ik j = 1 → RP n (kp j) (fun t => kt (17 * j + t)))
def RR (n : Nat) (tl : Nat → Int32) (tc : Int32) (sp : Nat → Int32) (nt : Int32) (kn gr : Nat → Int32) (gc : Int32) (bf : Nat → Int64) (ac : Int32) (sw an : Nat → Int32) (oc : Int32) (kp : Nat → Int64) (fl : Nat → Int32) (se : Int64) (tx : Nat → Int32) (ts : Int32) (pg : Nat → Int32) (th : Int32) (kd gd bk : Nat → Int32) (acts : Int32) (st so : Nat → Int32) (sn : Int32) (kt ik : Nat → Int32) (sd : Int64) : Prop :=
  RT tl tc tx ts ∧ RS n sp nt pg ∧ RG kn gr gc th kd gd ∧ RA n bf ac bk acts ∧ RO sw an oc st so sn ∧ RL' n kp fl kt ik ∧ se = sd
section RRS
variable {n : Nat} {tl : Nat → Int32} {tc : Int32} {sp : Nat → Int32} {nt : Int32} {kn gr : Nat → Int32} {gc : Int32} {bf : Nat → Int64} {ac : Int32} {sw an : Nat → Int32} {oc : Int32} {kp : Nat → Int64} {fl : Nat → Int32} {se : Int64} {tx : Nat → Int32} {ts : Int32} {pg : Nat → Int32} {th : Int32} {kd gd bk : Nat → Int32} {acts : Int32} {st so : Nat → Int32} {sn : Int32} {kt ik : Nat → Int32} {sd : Int64}
theorem RS_mono {n' : Nat} (h : RS n sp nt pg) (hn : n ≤ n') : RS n' sp nt pg := by
  obtain ⟨σ, m, h1, h2⟩ := h
  exact ⟨σ, m, by omega, h2⟩
theorem RP_mono {n' : Nat} {v : Int64} {row : Nat → Int32} (h : RP n v row) (hn : n ≤ n') : RP n' v row := by
  obtain ⟨σ, m, h1, h2⟩ := h
  exact ⟨σ, m, by omega, h2⟩
theorem RA_mono {n' : Nat} (h : RA n bf ac bk acts) (hn : n ≤ n') : RA n' bf ac bk acts := ⟨h.1, h.2.1, fun j hj => RP_mono (h.2.2 j hj) hn⟩
theorem RL_mono {n' : Nat} (h : RL' n kp fl kt ik) (hn : n ≤ n') : RL' n' kp fl kt ik := fun j hj => ⟨(h j hj).1, (h j hj).2.1, fun z => RP_mono ((h j hj).2.2 z) hn⟩
theorem RR_mono (h : RR n tl tc sp nt kn gr gc bf ac sw an oc kp fl se tx ts pg th kd gd bk acts st so sn kt ik sd) : RR (n + 1) tl tc sp nt kn gr gc bf ac sw an oc kp fl se tx ts pg th kd gd bk acts st so sn kt ik sd := by
  obtain ⟨h1, h2, h3, h4, h5, h6, h7⟩ := h
  exact ⟨h1, RS_mono h2 (by omega), h3, RA_mono h4 (by omega), h5, RL_mono h6 (by omega), h7⟩
theorem RR_mt (h : RR n tl tc sp nt kn gr gc bf ac sw an oc kp fl se tx ts pg th kd gd bk acts st so sn kt ik sd) : inR ts 48 := h.1.2.2
theorem RR_xt (h : RR n tl tc sp nt kn gr gc bf ac sw an oc kp fl se tx ts pg th kd gd bk acts st so sn kt ik sd) : inR tc 48 := by rw [h.1.2.1]; exact h.1.2.2
theorem RR_mg (h : RR n tl tc sp nt kn gr gc bf ac sw an oc kp fl se tx ts pg th kd gd bk acts st so sn kt ik sd) : inR th 6 := h.2.2.1.2.1
theorem RR_xg (h : RR n tl tc sp nt kn gr gc bf ac sw an oc kp fl se tx ts pg th kd gd bk acts st so sn kt ik sd) : inR gc 6 := by rw [h.2.2.1.1]; exact h.2.2.1.2.1
theorem RR_ma (h : RR n tl tc sp nt kn gr gc bf ac sw an oc kp fl se tx ts pg th kd gd bk acts st so sn kt ik sd) : inR acts 14 := h.2.2.2.1.2.1
theorem RR_xa (h : RR n tl tc sp nt kn gr gc bf ac sw an oc kp fl se tx ts pg th kd gd bk acts st so sn kt ik sd) : inR ac 14 := by rw [h.2.2.2.1.1]; exact h.2.2.2.1.2.1
theorem RR_mo (h : RR n tl tc sp nt kn gr gc bf ac sw an oc kp fl se tx ts pg th kd gd bk acts st so sn kt ik sd) : inR sn 6 := h.2.2.2.2.1.2.1
theorem RR_xo (h : RR n tl tc sp nt kn gr gc bf ac sw an oc kp fl se tx ts pg th kd gd bk acts st so sn kt ik sd) : inR oc 6 := by rw [h.2.2.2.2.1.1]; exact h.2.2.2.2.1.2.1
theorem RR_mw (h : RR n tl tc sp nt kn gr gc bf ac sw an oc kp fl se tx ts pg th kd gd bk acts st so sn kt ik sd) : WFp pg := by
  obtain ⟨-, ⟨σ, m, -, h1, -, -, h2, -⟩, -⟩ := h
  exact ⟨σ, h1, h2⟩
end RRS
/-! the script's places -/
theorem sc_in0 {k L : Nat} (h : 4 * k + 4 ≤ L) (hL : L ≤ 256) : vp_in (nI (4 * k)) L := vp_in_nI (by omega) (by omega)
theorem sc_in {k L : Nat} (j : Nat) (h : 4 * k + 4 ≤ L) (hj : j < 4) (hL : L ≤ 256) : vp_in (nI (4 * k) + nI j) L := by
  rw [nI_add]
  exact vp_in_nI (by omega) (by omega)
theorem sc_step (k : Nat) : nI (4 * k) + Int32.ofInt 4 = nI (4 * (k + 1)) := by
  have h : Int32.ofInt 4 = nI 4 := by decide
  rw [h, nI_add]
  congr 1
theorem sc_test {k L : Nat} (hk : k ≤ 65) (hL : L ≤ 256) (c : ¬ (Int32.ofNat L - 4 : Int32) < nI (4 * k)) : 4 * k + 4 ≤ L := by
  have h1 := pk_sub_toInt (a := L) (b := 4) (by omega) (by omega)
  rw [Int32.lt_iff_toInt_lt, nI_toInt (by omega)] at c
  have h2 : (Int32.ofNat L - 4 : Int32).toInt = (L : Int) - 4 := h1
  omega
