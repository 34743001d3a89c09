/-! a group of the invariant hangs on its own places alone -/
def cut (D : Nat → Nat → Bool) (A : sm_M) : sm_M := fun f i k => cond (D f k) (A f i k) 0
theorem cut_of {P D : Nat → Nat → Bool} {A A' : sm_M} (h : Fr P A A') (hd : ∀ f k, D f k = true → P f k = false) : cut D A' = cut D A := by
  funext f i k
  unfold cut
  cases e : D f k
  · rfl
  · exact h f i k (hd f k e)
def DA_day (f k : Nat) : Bool := (Nat.beq f 10 && Nat.beq k 0)
def DB_day (f k : Nat) : Bool := (Nat.beq f 11 && Nat.beq k 1)
def DA_srv (f k : Nat) : Bool := (Nat.beq f 14 && Nat.beq k 1) || Nat.beq f 41
def DB_srv (f k : Nat) : Bool := (Nat.beq f 11 && Nat.beq k 3) || Nat.beq f 50 || Nat.beq f 51 || Nat.beq f 52
def DA_sea (f k : Nat) : Bool := Nat.beq f 27 || Nat.beq f 28 || Nat.beq f 29 || Nat.beq f 30 || Nat.beq f 31 || Nat.beq f 32
def DB_sea (f k : Nat) : Bool := Nat.beq f 53 || Nat.beq f 54 || Nat.beq f 55 || Nat.beq f 56 || Nat.beq f 57 || Nat.beq f 58
def DA_thg (f k : Nat) : Bool := (Nat.beq f 14 && Nat.beq k 3) || Nat.beq f 42
def DB_thg (f k : Nat) : Bool := (Nat.beq f 11 && Nat.beq k 13) || (Nat.beq f 11 && Nat.beq k 3) || Nat.beq f 59 || Nat.beq f 60 || Nat.beq f 61 || Nat.beq f 62 || Nat.beq f 63 || Nat.beq f 64
def DA_tel (f k : Nat) : Bool := (Nat.beq f 14 && Nat.beq k 3) || (Nat.beq f 14 && Nat.beq k 5) || Nat.beq f 42 || Nat.beq f 39
def DB_tel (f k : Nat) : Bool := (Nat.beq f 11 && Nat.beq k 13) || (Nat.beq f 11 && Nat.beq k 49) || (Nat.beq f 11 && Nat.beq k 2) || Nat.beq f 64 || Nat.beq f 65 || Nat.beq f 66 || Nat.beq f 67 || Nat.beq f 68 || Nat.beq f 85 || Nat.beq f 86
def DA_rul (f k : Nat) : Bool := (Nat.beq f 13 && Nat.beq k 1) || Nat.beq f 34 || Nat.beq f 36
def DB_rul (f k : Nat) : Bool := (Nat.beq f 11 && Nat.beq k 27) || Nat.beq f 70 || Nat.beq f 71 || Nat.beq f 72 || Nat.beq f 73
def DB_num (f k : Nat) : Bool := (Nat.beq f 11 && Nat.beq k 27) || Nat.beq f 71
def DA_txt (f k : Nat) : Bool := (Nat.beq f 13 && Nat.beq k 4) || Nat.beq f 35
def DB_txt (f k : Nat) : Bool := (Nat.beq f 11 && Nat.beq k 26) || Nat.beq f 69
def DB_wrd (f k : Nat) : Bool := Nat.beq f 74
def DA_way (f k : Nat) : Bool := (Nat.beq f 10 && Nat.beq k 12) || Nat.beq f 18
def DB_way (f k : Nat) : Bool := (Nat.beq f 11 && Nat.beq k 59) || Nat.beq f 92
def DA_end (f k : Nat) : Bool := (Nat.beq f 10 && Nat.beq k 14)
def DB_end (f k : Nat) : Bool := (Nat.beq f 11 && Nat.beq k 24)
def DA_tap (f k : Nat) : Bool := Nat.beq f 26 || Nat.beq f 49
def DB_tap (f k : Nat) : Bool := Nat.beq f 96 || Nat.beq f 97 || Nat.beq f 98 || Nat.beq f 99
def DB_tp3 (f k : Nat) : Bool := Nat.beq f 96 || Nat.beq f 98 || Nat.beq f 99
def DA_sht (f k : Nat) : Bool := (Nat.beq f 10 && Nat.beq k 5) || (Nat.beq f 23 && Nat.ble k 3)
def DB_sht (f k : Nat) : Bool := (Nat.beq f 11 && Nat.beq k 38) || Nat.beq f 76 || Nat.beq f 77 || Nat.beq f 78 || Nat.beq f 79
def DA_edi (f k : Nat) : Bool := (Nat.beq f 10 && Nat.beq k 5) || (Nat.beq f 10 && Nat.beq k 7) || (Nat.beq f 23 && Nat.beq k 4) || Nat.beq f 24 || Nat.beq f 46
def DB_edi (f k : Nat) : Bool := (Nat.beq f 11 && Nat.beq k 38) || (Nat.beq f 11 && Nat.beq k 44) || (Nat.beq f 11 && Nat.beq k 49) || (Nat.beq f 11 && Nat.beq k 2) || Nat.beq f 81 || Nat.beq f 82 || Nat.beq f 83 || Nat.beq f 84 || Nat.beq f 85
def DA_cop (f k : Nat) : Bool := (Nat.beq f 10 && Nat.beq k 9) || (Nat.beq f 25 && Nat.ble k 1)
def DB_cop (f k : Nat) : Bool := (Nat.beq f 11 && Nat.beq k 52) || (Nat.beq f 11 && Nat.beq k 44) || Nat.beq f 87 || Nat.beq f 88
def DA_cor (f k : Nat) : Bool := (Nat.beq f 10 && Nat.beq k 10) || (Nat.beq f 25 && Nat.beq k 4) || Nat.beq f 47 || Nat.beq f 48
def DB_cor (f k : Nat) : Bool := (Nat.beq f 11 && Nat.beq k 55) || Nat.beq f 89 || Nat.beq f 90 || Nat.beq f 91
def DA_act (f k : Nat) : Bool := (Nat.beq f 20 && Nat.beq k 1) || Nat.beq f 43
def DB_act (f k : Nat) : Bool := (Nat.beq f 11 && Nat.beq k 65) || Nat.beq f 95
def DA_cst (f k : Nat) : Bool := (Nat.ble 1 f && Nat.ble f 4)
def DA_set (f k : Nat) : Bool := (Nat.beq f 21 && Nat.beq k 0) || (Nat.beq f 22 && Nat.beq k 0)
theorem J_day_ct {A B A' B' : sm_M} (hA : cut DA_day A' = cut DA_day A) (hB : cut DB_day B' = cut DB_day B) (h : J_day A B) : J_day A' B' := by
  have h1 : J_day (cut DA_day A) (cut DB_day B) := h
  rw [← hA, ← hB] at h1
  exact h1
theorem J_srv_ct {A B A' B' : sm_M} (hA : cut DA_srv A' = cut DA_srv A) (hB : cut DB_srv B' = cut DB_srv B) (h : J_srv A B) : J_srv A' B' := by
  have h1 : J_srv (cut DA_srv A) (cut DB_srv B) := h
  rw [← hA, ← hB] at h1
  exact h1
theorem J_sea_ct {A B A' B' : sm_M} (hA : cut DA_sea A' = cut DA_sea A) (hB : cut DB_sea B' = cut DB_sea B) (h : J_sea A B) : J_sea A' B' := by
  have h1 : J_sea (cut DA_sea A) (cut DB_sea B) := h
  rw [← hA, ← hB] at h1
  exact h1
theorem J_thg_ct {A B A' B' : sm_M} (hA : cut DA_thg A' = cut DA_thg A) (hB : cut DB_thg B' = cut DB_thg B) (h : J_thg A B) : J_thg A' B' := by
  have h1 : J_thg (cut DA_thg A) (cut DB_thg B) := h
  rw [← hA, ← hB] at h1
  exact h1
theorem J_tel_ct {e n : Nat} {A B A' B' : sm_M} (hA : cut DA_tel A' = cut DA_tel A) (hB : cut DB_tel B' = cut DB_tel B) (h : J_tel e n A B) : J_tel e n A' B' := by
  have h1 : J_tel e n (cut DA_tel A) (cut DB_tel B) := h
  rw [← hA, ← hB] at h1
  exact h1
theorem J_rul_ct {A B A' B' : sm_M} (hA : cut DA_rul A' = cut DA_rul A) (hB : cut DB_rul B' = cut DB_rul B) (h : J_rul A B) : J_rul A' B' := by
  have h1 : J_rul (cut DA_rul A) (cut DB_rul B) := h
  rw [← hA, ← hB] at h1
  exact h1
theorem J_num_ct {B B' : sm_M} (hB : cut DB_num B' = cut DB_num B) (h : J_num B) : J_num B' := by
  have h1 : J_num (cut DB_num B) := h
  rw [← hB] at h1
  exact h1
theorem J_txt_ct {A B A' B' : sm_M} (hA : cut DA_txt A' = cut DA_txt A) (hB : cut DB_txt B' = cut DB_txt B) (h : J_txt A B) : J_txt A' B' := by
  have h1 : J_txt (cut DA_txt A) (cut DB_txt B) := h
  rw [← hA, ← hB] at h1
  exact h1
theorem J_wrd_ct {B B' : sm_M} (hB : cut DB_wrd B' = cut DB_wrd B) (h : J_wrd B) : J_wrd B' := by
  have h1 : J_wrd (cut DB_wrd B) := h
  rw [← hB] at h1
  exact h1
theorem J_way_ct {A B A' B' : sm_M} (hA : cut DA_way A' = cut DA_way A) (hB : cut DB_way B' = cut DB_way B) (h : J_way A B) : J_way A' B' := by
  have h1 : J_way (cut DA_way A) (cut DB_way B) := h
  rw [← hA, ← hB] at h1
  exact h1
theorem J_end_ct {A B A' B' : sm_M} (hA : cut DA_end A' = cut DA_end A) (hB : cut DB_end B' = cut DB_end B) (h : J_end A B) : J_end A' B' := by
  have h1 : J_end (cut DA_end A) (cut DB_end B) := h
  rw [← hA, ← hB] at h1
  exact h1
theorem J_tap_ct {A B A' B' : sm_M} (hA : cut DA_tap A' = cut DA_tap A) (hB : cut DB_tap B' = cut DB_tap B) (h : J_tap A B) : J_tap A' B' := by
  have h1 : J_tap (cut DA_tap A) (cut DB_tap B) := h
  rw [← hA, ← hB] at h1
  exact h1
theorem J_tp3_ct {B B' : sm_M} (hB : cut DB_tp3 B' = cut DB_tp3 B) (h : J_tp3 B) : J_tp3 B' := by
  have h1 : J_tp3 (cut DB_tp3 B) := h
  rw [← hB] at h1
  exact h1
theorem J_sht_ct {A B A' B' : sm_M} (hA : cut DA_sht A' = cut DA_sht A) (hB : cut DB_sht B' = cut DB_sht B) (h : J_sht A B) : J_sht A' B' := by
  have h1 : J_sht (cut DA_sht A) (cut DB_sht B) := h
  rw [← hA, ← hB] at h1
  exact h1
theorem J_edi_ct {n : Nat} {A B A' B' : sm_M} (hA : cut DA_edi A' = cut DA_edi A) (hB : cut DB_edi B' = cut DB_edi B) (h : J_edi n A B) : J_edi n A' B' := by
  have e : ∀ (B : sm_M) k m, wle (cut DB_edi B) k m = wle B k m := fun B k m => wle_c (fun _ _ => rfl)
  have h1 : J_edi n (cut DA_edi A) (cut DB_edi B) := by
    unfold J_edi at h ⊢
    simp only [e]; exact h
  rw [← hA, ← hB] at h1
  unfold J_edi at h1 ⊢
  simp only [e] at h1; exact h1
theorem J_cop_ct {A B A' B' : sm_M} (hA : cut DA_cop A' = cut DA_cop A) (hB : cut DB_cop B' = cut DB_cop B) (h : J_cop A B) : J_cop A' B' := by
  have h1 : J_cop (cut DA_cop A) (cut DB_cop B) := h
  rw [← hA, ← hB] at h1
  exact h1
theorem J_cor_ct {A B A' B' : sm_M} (hA : cut DA_cor A' = cut DA_cor A) (hB : cut DB_cor B' = cut DB_cor B) (h : J_cor A B) : J_cor A' B' := by
  have e : ∀ (B : sm_M) c m, wcn (cut DB_cor B) c m = wcn B c m := fun B c m => wcn_c (fun _ _ => rfl)
  have h1 : J_cor (cut DA_cor A) (cut DB_cor B) := by
    unfold J_cor at h ⊢
    simp only [e]; exact h
  rw [← hA, ← hB] at h1
  unfold J_cor at h1 ⊢
  simp only [e] at h1; exact h1
theorem J_act_ct {A B A' B' : sm_M} (hA : cut DA_act A' = cut DA_act A) (hB : cut DB_act B' = cut DB_act B) (h : J_act A B) : J_act A' B' := by
  have h1 : J_act (cut DA_act A) (cut DB_act B) := h
  rw [← hA, ← hB] at h1
  exact h1
theorem J_cst_ct {A A' : sm_M} (hA : cut DA_cst A' = cut DA_cst A) (h : J_cst A) : J_cst A' := by
  intro f k h1 h4 hk
  have e : ∀ A : sm_M, cut DA_cst A f 0 k = A f 0 k := fun A => by
    have e1 : f = 1 ∨ f = 2 ∨ f = 3 ∨ f = 4 := by omega
    rcases e1 with rfl | rfl | rfl | rfl <;> rfl
  rw [← e A', hA, e A]; exact h f k h1 h4 hk
theorem J_set_ct {A A' : sm_M} (hA : cut DA_set A' = cut DA_set A) (h : J_set A) : J_set A' := by
  have h1 : J_set (cut DA_set A) := h
  rw [← hA] at h1
  exact h1
