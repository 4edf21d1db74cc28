theorem lg_self (x : Int64) : lg_cmp x x = 0 := by
  unfold lg_cmp
  rw [if_neg (by simp), if_pos rfl]
theorem lw_add {i k : Nat} (h : i + 6 ≤ 384) (hk : k ≤ 5) : (nI i + nI k).toNatClampNeg = i + k := by rw [nI_add, nI_clamp (by omega)]
theorem lw_in1 {i L : Nat} (hi : i + 6 ≤ L) (hL : L ≤ 384) : vp_in (nI i + 1) L := by
  rw [show nI i + 1 = nI (i + 1) from nI_add i 1]
  exact vp_in_nI (by omega) (by omega)
theorem lw_at1 {i L : Nat} (hi : i + 6 ≤ L) (hL : L ≤ 384) : (nI i + 1).toNatClampNeg = i + 1 := by
  rw [show nI i + 1 = nI (i + 1) from nI_add i 1]
  exact nI_clamp (by omega)
theorem lw_in2 {i L : Nat} (hi : i + 6 ≤ L) (hL : L ≤ 384) : vp_in (nI i + 2) L := by
  rw [show nI i + 2 = nI (i + 2) from nI_add i 2]
  exact vp_in_nI (by omega) (by omega)
theorem lw_at2 {i L : Nat} (hi : i + 6 ≤ L) (hL : L ≤ 384) : (nI i + 2).toNatClampNeg = i + 2 := by
  rw [show nI i + 2 = nI (i + 2) from nI_add i 2]
  exact nI_clamp (by omega)
theorem lw_in3 {i L : Nat} (hi : i + 6 ≤ L) (hL : L ≤ 384) : vp_in (nI i + 3) L := by
  rw [show nI i + 3 = nI (i + 3) from nI_add i 3]
  exact vp_in_nI (by omega) (by omega)
theorem lw_at3 {i L : Nat} (hi : i + 6 ≤ L) (hL : L ≤ 384) : (nI i + 3).toNatClampNeg = i + 3 := by
  rw [show nI i + 3 = nI (i + 3) from nI_add i 3]
  exact nI_clamp (by omega)
theorem lw_in4 {i L : Nat} (hi : i + 6 ≤ L) (hL : L ≤ 384) : vp_in (nI i + 4) L := by
  rw [show nI i + 4 = nI (i + 4) from nI_add i 4]
  exact vp_in_nI (by omega) (by omega)
theorem lw_at4 {i L : Nat} (hi : i + 6 ≤ L) (hL : L ≤ 384) : (nI i + 4).toNatClampNeg = i + 4 := by
  rw [show nI i + 4 = nI (i + 4) from nI_add i 4]
  exact nI_clamp (by omega)
theorem lw_in5 {i L : Nat} (hi : i + 6 ≤ L) (hL : L ≤ 384) : vp_in (nI i + 5) L := by
  rw [show nI i + 5 = nI (i + 5) from nI_add i 5]
  exact vp_in_nI (by omega) (by omega)
theorem lw_at5 {i L : Nat} (hi : i + 6 ≤ L) (hL : L ≤ 384) : (nI i + 5).toNatClampNeg = i + 5 := by
  rw [show nI i + 5 = nI (i + 5) from nI_add i 5]
  exact nI_clamp (by omega)
def lc_0 (N : Nat) (x mm : Nat) (J : PS → Prop) (S : PS) (a1 : Int32) (a2 : Int32) (a3 : Int32) (a4 : Int32) (a5 : Int32) : Prop := S.K x = 11 ∧ wp_X10_part N S x a1 a2 a3 a4 a5 (fun r3 S2 => S2.K mm = 12 ∧ wp_X11_part N S2 mm a1 a2 a3 a4 a5 (fun r6 S5 => r3 = r6 ∧ J S5))
def lc_1 (N : Nat) (x mm : Nat) (J : PS → Prop) (S : PS) (a1 : Int32) (a2 : Int32) : Prop := S.K x = 11 ∧ wp_X10_of N S x a1 a2 (fun r3 S2 => S2.K mm = 12 ∧ wp_X11_of N S2 mm a1 a2 (fun r6 S5 => r3 = r6 ∧ J S5))
def lc_2 (N : Nat) (x mm : Nat) (J : PS → Prop) (S : PS) (a1 : Int32) (a2 : Int32) (a3 : Int32) : Prop := S.K x = 11 ∧ wp_X10_fail N S x a1 a2 a3 (fun r3 S2 => S2.K mm = 12 ∧ wp_X11_fail N S2 mm a1 a2 a3 (fun r6 S5 => r3 = r6 ∧ J S5))
def lc_3 (N : Nat) (x mm : Nat) (J : PS → Prop) (S : PS) (a1 : Int32) : Prop := S.K x = 11 ∧ wp_X10_later N S x a1 (fun r3 S2 => S2.K mm = 12 ∧ wp_X11_later N S2 mm a1 (fun r6 S5 => r3 = r6 ∧ J S5))
def lc_4 (N : Nat) (x mm : Nat) (J : PS → Prop) (S : PS) (a1 : Int32) : Prop := S.K x = 11 ∧ wp_X10_noise N S x a1 (fun r3 S2 => S2.K mm = 12 ∧ wp_X11_noise N S2 mm a1 (fun r6 S5 => r3 = r6 ∧ J S5))
def lc_5 (N : Nat) (x mm : Nat) (J : PS → Prop) (S : PS) (a1 : Int32) : Prop := S.K x = 11 ∧ wp_X10_lots N S x a1 (fun r3 S2 => S2.K mm = 12 ∧ wp_X11_lots N S2 mm a1 (fun r6 S5 => r3 = r6 ∧ J S5))
def lc_6 (N : Nat) (x mm : Nat) (J : PS → Prop) (S : PS) (a1 : Int32) : Prop := S.K x = 11 ∧ wp_X10_run N S x a1 (fun r3 S2 => S2.K mm = 12 ∧ wp_X11_run N S2 mm a1 (fun r6 S5 => r3 = r6 ∧ J S5))
def lc_7 (N : Nat) (x mm : Nat) (J : PS → Prop) (S : PS) (a1 : Int32) (a2 : Int32) (a3 : Int32) : Prop := S.K x = 11 ∧ wp_X10_older N S x a1 a2 a3 (fun r3 S2 => S2.K mm = 12 ∧ wp_X11_older N S2 mm a1 a2 a3 (fun r6 S5 => r3 = r6 ∧ J S5))
def lc_8 (N : Nat) (x mm : Nat) (J : PS → Prop) (S : PS) (a1 : Int32) (a2 : Int32) : Prop := S.K x = 11 ∧ wp_X10_ran N S x a1 a2 (fun r3 S2 => S2.K mm = 12 ∧ wp_X11_ran N S2 mm a1 a2 (fun r6 S5 => r3 = r6 ∧ J S5))
def lc_9 (N : Nat) (x mm : Nat) (J : PS → Prop) (S : PS) (a1 : Int32) (a2 : Int32) : Prop := if a2 = 0 then (S.K x = 11 ∧ wp_X10_tryout N S x a1 0 (fun r4 S3 => if a2 = 0 then (S3.K mm = 12 ∧ wp_X11_tryout N S3 mm a1 0 (fun r8 S7 => r4 = r8 ∧ J S7)) else (S3.K mm = 12 ∧ wp_X11_tryout N S3 mm a1 1 (fun r11 S10 => r4 = r11 ∧ J S10)))) else (S.K x = 11 ∧ wp_X10_tryout N S x a1 1 (fun r14 S13 => if a2 = 0 then (S13.K mm = 12 ∧ wp_X11_tryout N S13 mm a1 0 (fun r18 S17 => r14 = r18 ∧ J S17)) else (S13.K mm = 12 ∧ wp_X11_tryout N S13 mm a1 1 (fun r21 S20 => r14 = r21 ∧ J S20))))
def lc_10 (N : Nat) (x mm : Nat) (J : PS → Prop) (S : PS) (a1 : Int32) (a2 : Int32) (a3 : Int32) : Prop := S.K x = 11 ∧ wp_X10_feed N S x ((a1.toInt64 <<< ((32 : Int32).toInt64 &&& 63)) ||| (a2.toInt64 &&& (4294967295 : Int64))) a3 (fun r3 S2 => S2.K mm = 12 ∧ wp_X11_feed N S2 mm ((a1.toInt64 <<< ((32 : Int32).toInt64 &&& 63)) ||| (a2.toInt64 &&& (4294967295 : Int64))) a3 (fun r6 S5 => r3 = r6 ∧ J S5))
def lc_11 (N : Nat) (x mm : Nat) (J : PS → Prop) (S : PS) (a1 : Int32) : Prop := S.K x = 11 ∧ wp_X10_story N S x a1 (fun r3 S2 => S2.K mm = 12 ∧ wp_X11_story N S2 mm a1 (fun r6 S5 => r3 = r6 ∧ J S5))
def lc_12 (N : Nat) (x mm : Nat) (J : PS → Prop) (S : PS) (a1 : Int32) (a2 : Int32) (a3 : Int32) : Prop := S.K x = 11 ∧ wp_X10_gives N S x a1 a2 a3 (fun r3 S2 => S2.K mm = 12 ∧ wp_X11_gives N S2 mm a1 a2 a3 (fun r6 S5 => r3 = r6 ∧ J S5))
def lc_13 (N : Nat) (x mm : Nat) (J : PS → Prop) (S : PS) (a1 : Int32) (a2 : Int32) : Prop := S.K x = 11 ∧ wp_X10_finds N S x a1 a2 (fun r3 S2 => S2.K mm = 12 ∧ wp_X11_finds N S2 mm a1 a2 (fun r6 S5 => r3 = r6 ∧ J S5))
def lc_14 (N : Nat) (x mm : Nat) (J : PS → Prop) (S : PS) (a1 : Int32) : Prop := S.K x = 11 ∧ wp_X10_miss N S x a1 (fun r3 S2 => S2.K mm = 12 ∧ wp_X11_miss N S2 mm a1 (fun r6 S5 => r3 = r6 ∧ J S5))
def lc_15 (N : Nat) (x mm : Nat) (J : PS → Prop) (S : PS) : Prop := S.K x = 11 ∧ wp_X10_likely N S x (fun r3 S2 => S2.K mm = 12 ∧ wp_X11_likely N S2 mm (fun r6 S5 => r3 = r6 ∧ J S5))
def lc_16 (N : Nat) (x mm : Nat) (J : PS → Prop) (S : PS) (a1 : Int32) (a2 : Int32) : Prop := S.K x = 11 ∧ wp_X10_odds N S x a1 a2 (fun r3 S2 => S2.K mm = 12 ∧ wp_X11_odds N S2 mm a1 a2 (fun r6 S5 => r3 = r6 ∧ J S5))
def lc_17 (N : Nat) (x mm : Nat) (J : PS → Prop) (S : PS) (a1 : Int32) (a2 : Int32) (a3 : Int32) : Prop := S.K x = 11 ∧ wp_X10_same N S x a1 a2 a3 (fun r3 S2 => S2.K mm = 12 ∧ wp_X11_same N S2 mm a1 a2 a3 (fun r6 S5 => r3 = r6 ∧ J S5))
def lc_18 (N : Nat) (x mm : Nat) (J : PS → Prop) (S : PS) (a1 : Int32) (a2 : Int32) : Prop := S.K x = 11 ∧ wp_X10_next N S x a1 a2 (fun r3 S2 => S2.K mm = 12 ∧ wp_X11_next N S2 mm a1 a2 (fun r6 S5 => r3 = r6 ∧ J S5))
def lc_19 (N : Nat) (x mm : Nat) (J : PS → Prop) (S : PS) (a1 : Int32) (a2 : Int32) : Prop := S.K x = 11 ∧ wp_X10_least N S x a1 a2 (fun r3 S2 => S2.K mm = 12 ∧ wp_X11_least N S2 mm a1 a2 (fun r6 S5 => r3 = r6 ∧ J S5))
def lc_20 (N : Nat) (x mm : Nat) (J : PS → Prop) (S : PS) (a1 : Int32) (a2 : Int32) : Prop := S.K x = 11 ∧ wp_X10_span N S x a1 a2 (fun r3 S2 => S2.K mm = 12 ∧ wp_X11_span N S2 mm a1 a2 (fun r6 S5 => r3 = r6 ∧ J S5))
def lc_21 (N : Nat) (x mm : Nat) (J : PS → Prop) (S : PS) (a1 : Int32) : Prop := S.K x = 11 ∧ wp_X10_sure N S x a1 (fun r3 S2 => S2.K mm = 12 ∧ wp_X11_sure N S2 mm a1 (fun r6 S5 => r3 = r6 ∧ J S5))
def lc_22 (N : Nat) (x mm : Nat) (J : PS → Prop) (S : PS) (a1 : Int32) (a2 : Int32) : Prop := S.K x = 11 ∧ wp_X10_could N S x a1 a2 (fun r3 S2 => S2.K mm = 12 ∧ wp_X11_could N S2 mm a1 a2 (fun r6 S5 => r3 = r6 ∧ J S5))
def lc_23 (N : Nat) (x mm : Nat) (J : PS → Prop) (S : PS) (a1 : Int32) (a2 : Int32) : Prop := S.K x = 11 ∧ wp_X10_fits N S x a1 a2 (fun r3 S2 => S2.K mm = 12 ∧ wp_X11_fits N S2 mm a1 a2 (fun r6 S5 => r3 = r6 ∧ J S5))
def lc_24 (N : Nat) (x mm : Nat) (J : PS → Prop) (S : PS) (a1 : Int32) (a2 : Int32) : Prop := S.K x = 11 ∧ wp_X10_jump N S x a1 a2 (fun r3 S2 => S2.K mm = 12 ∧ wp_X11_jump N S2 mm a1 a2 (fun r6 S5 => r3 = r6 ∧ J S5))
def lc_25 (N : Nat) (x mm : Nat) (J : PS → Prop) (S : PS) (a1 : Int32) (a2 : Int32) (a3 : Int32) : Prop := S.K x = 11 ∧ wp_X10_month N S x a1 a2 a3 (fun r3 S2 => S2.K mm = 12 ∧ wp_X11_month N S2 mm a1 a2 a3 (fun r6 S5 => r3 = r6 ∧ J S5))
def lc_26 (N : Nat) (x mm : Nat) (J : PS → Prop) (S : PS) : Prop := S.K x = 11 ∧ wp_X10_house N S x (fun r3 S2 => S2.K mm = 12 ∧ wp_X11_house N S2 mm (fun r6 S5 => r3 = r6 ∧ J S5))
def lc_27 (N : Nat) (x mm : Nat) (J : PS → Prop) (S : PS) (a1 : Int32) : Prop := S.K x = 11 ∧ wp_X10_fact N S x a1 (fun r3 S2 => S2.K mm = 12 ∧ wp_X11_fact N S2 mm a1 (fun r6 S5 => r3 = r6 ∧ J S5))
def lc_28 (N : Nat) (x mm : Nat) (J : PS → Prop) (S : PS) (a1 : Int32) (a2 : Int32) : Prop := S.K x = 11 ∧ wp_X10_holds N S x a1 a2 (fun r3 S2 => S2.K mm = 12 ∧ wp_X11_holds N S2 mm a1 a2 (fun r6 S5 => r3 = r6 ∧ J S5))
def lc_29 (N : Nat) (x mm : Nat) (J : PS → Prop) (S : PS) : Prop := S.K x = 11 ∧ wp_X10_sign N S x (fun r3 S2 => S2.K mm = 12 ∧ wp_X11_sign N S2 mm (fun r6 S5 => r3 = r6 ∧ J S5))
def lc_30 (N : Nat) (x mm : Nat) (J : PS → Prop) (S : PS) (a1 : Int32) : Prop := S.K x = 11 ∧ wp_X10_prove N S x a1 (fun r3 S2 => S2.K mm = 12 ∧ wp_X11_prove N S2 mm a1 (fun r6 S5 => r3 = r6 ∧ J S5))
def lc_31 (N : Nat) (x mm : Nat) (J : PS → Prop) (S : PS) (a1 : Int32) (a2 : Int32) : Prop := S.K x = 11 ∧ wp_X10_row N S x a1 a2 (fun r3 S2 => S2.K mm = 12 ∧ wp_X11_row N S2 mm a1 a2 (fun r6 S5 => r3 = r6 ∧ J S5))
def lc_32 (N : Nat) (x mm : Nat) (J : PS → Prop) (S : PS) (a1 : Int32) (a2 : Int32) (a3 : Int32) : Prop := S.K x = 11 ∧ wp_X10_alterRow N S x a1 a2 a3 (fun r3 S2 => S2.K mm = 12 ∧ wp_X11_alterRow N S2 mm a1 a2 a3 (fun r6 S5 => r3 = r6 ∧ J S5))
def lc_33 (N : Nat) (x mm : Nat) (J : PS → Prop) (S : PS) (a1 : Int32) : Prop := S.K x = 11 ∧ wp_X10_judge N S x a1 (fun r3 S2 => S2.K mm = 12 ∧ wp_X11_judge N S2 mm a1 (fun r6 S5 => r3 = r6 ∧ J S5))
def lc_34 (N : Nat) (x mm : Nat) (J : PS → Prop) (S : PS) (a1 : Int32) (a2 : Int32) (a3 : Int32) : Prop := S.K x = 11 ∧ wp_X10_sheet N S x a1 a2 a3 (fun r3 S2 => S2.K mm = 12 ∧ wp_X11_sheet N S2 mm a1 a2 a3 (fun r6 S5 => r3 = r6 ∧ J S5))
def lc_35 (N : Nat) (x mm : Nat) (J : PS → Prop) (S : PS) (a1 : Int32) (a2 : Int32) (a3 : Int32) : Prop := S.K x = 11 ∧ wp_X10_put N S x a1 a2 a3 (fun r3 S2 => S2.K mm = 12 ∧ wp_X11_put N S2 mm a1 a2 a3 (fun r6 S5 => r3 = r6 ∧ J S5))
def lc_36 (N : Nat) (x mm : Nat) (J : PS → Prop) (S : PS) (a1 : Int32) (a2 : Int32) (a3 : Int32) : Prop := S.K x = 11 ∧ wp_X10_item N S x a1 a2 a3 (fun r3 S2 => S2.K mm = 12 ∧ wp_X11_item N S2 mm a1 a2 a3 (fun r6 S5 => r3 = r6 ∧ J S5))
def lc_37 (N : Nat) (x mm : Nat) (J : PS → Prop) (S : PS) (a1 : Int32) (a2 : Int32) (a3 : Int32) : Prop := S.K x = 11 ∧ wp_X10_shelf N S x a1 a2 a3 (fun r3 S2 => S2.K mm = 12 ∧ wp_X11_shelf N S2 mm a1 a2 a3 (fun r6 S5 => r3 = r6 ∧ J S5))
def lc_38 (N : Nat) (x mm : Nat) (J : PS → Prop) (S : PS) (a1 : Int32) (a2 : Int32) : Prop := S.K x = 11 ∧ wp_X10_taken N S x a1 a2 (fun r3 S2 => S2.K mm = 12 ∧ wp_X11_taken N S2 mm a1 a2 (fun r6 S5 => r3 = r6 ∧ J S5))
def lc_39 (N : Nat) (x mm : Nat) (J : PS → Prop) (S : PS) (a1 : Int32) (a2 : Int32) (a3 : Int32) : Prop := S.K x = 11 ∧ wp_X10_act N S x a1 a2 a3 (fun r3 S2 => S2.K mm = 12 ∧ wp_X11_act N S2 mm a1 a2 a3 (fun r6 S5 => r3 = r6 ∧ J S5))
def lc_40 (N : Nat) (x mm : Nat) (J : PS → Prop) (S : PS) (a1 : Int32) : Prop := S.K x = 11 ∧ wp_X10_trace N S x a1 (fun r3 S2 => S2.K mm = 12 ∧ wp_X11_trace N S2 mm a1 (fun r6 S5 => r3 = r6 ∧ J S5))
def lc_41 (N : Nat) (x mm : Nat) (J : PS → Prop) (S : PS) (a1 : Int32) : Prop := S.K x = 11 ∧ wp_X10_many N S x a1 (fun r3 S2 => S2.K mm = 12 ∧ wp_X11_many N S2 mm a1 (fun r6 S5 => r3 = r6 ∧ J S5))
def lc_42 (N : Nat) (x mm : Nat) (J : PS → Prop) (S : PS) : Prop := S.K x = 11 ∧ wp_X10_keep N S x (fun r3 S2 => S2.K mm = 12 ∧ wp_X11_keep N S2 mm (fun r6 S5 => r3 = r6 ∧ J S5))
def lc_43 (N : Nat) (x mm : Nat) (J : PS → Prop) (S : PS) : Prop := S.K x = 11 ∧ wp_X10_back N S x (fun r3 S2 => S2.K mm = 12 ∧ wp_X11_back N S2 mm (fun r6 S5 => r3 = r6 ∧ J S5))
def lawCase (N : Nat) (x mm : Nat) (J : PS → Prop) (S : PS) (o a1 a2 a3 a4 a5 : Int32) : Prop :=
  if o = 0 then lc_0 N x mm J S a1 a2 a3 a4 a5 else
  if o = 1 then lc_1 N x mm J S a1 a2 else
  if o = 2 then lc_2 N x mm J S a1 a2 a3 else
  if o = 3 then lc_3 N x mm J S a1 else
  if o = 4 then lc_4 N x mm J S a1 else
  if o = 5 then lc_5 N x mm J S a1 else
  if o = 6 then lc_6 N x mm J S a1 else
  if o = 7 then lc_7 N x mm J S a1 a2 a3 else
  if o = 8 then lc_8 N x mm J S a1 a2 else
  if o = 9 then lc_9 N x mm J S a1 a2 else
  if o = 10 then lc_10 N x mm J S a1 a2 a3 else
  if o = 11 then lc_11 N x mm J S a1 else
  if o = 12 then lc_12 N x mm J S a1 a2 a3 else
  if o = 13 then lc_13 N x mm J S a1 a2 else
  if o = 14 then lc_14 N x mm J S a1 else
  if o = 15 then lc_15 N x mm J S else
  if o = 16 then lc_16 N x mm J S a1 a2 else
  if o = 17 then lc_17 N x mm J S a1 a2 a3 else
  if o = 18 then lc_18 N x mm J S a1 a2 else
  if o = 19 then lc_19 N x mm J S a1 a2 else
  if o = 20 then lc_20 N x mm J S a1 a2 else
  if o = 21 then lc_21 N x mm J S a1 else
  if o = 22 then lc_22 N x mm J S a1 a2 else
  if o = 23 then lc_23 N x mm J S a1 a2 else
  if o = 24 then lc_24 N x mm J S a1 a2 else
  if o = 25 then lc_25 N x mm J S a1 a2 a3 else
  if o = 26 then lc_26 N x mm J S else
  if o = 27 then lc_27 N x mm J S a1 else
  if o = 28 then lc_28 N x mm J S a1 a2 else
  if o = 29 then lc_29 N x mm J S else
  if o = 30 then lc_30 N x mm J S a1 else
  if o = 31 then lc_31 N x mm J S a1 a2 else
  if o = 32 then lc_32 N x mm J S a1 a2 a3 else
  if o = 33 then lc_33 N x mm J S a1 else
  if o = 34 then lc_34 N x mm J S a1 a2 a3 else
  if o = 35 then lc_35 N x mm J S a1 a2 a3 else
  if o = 36 then lc_36 N x mm J S a1 a2 a3 else
  if o = 37 then lc_37 N x mm J S a1 a2 a3 else
  if o = 38 then lc_38 N x mm J S a1 a2 else
  if o = 39 then lc_39 N x mm J S a1 a2 a3 else
  if o = 40 then lc_40 N x mm J S a1 else
  if o = 41 then lc_41 N x mm J S a1 else
  if o = 42 then lc_42 N x mm J S else
  if o = 43 then lc_43 N x mm J S else
  J S
set_option maxHeartbeats 4000000 in
set_option maxRecDepth 100000 in
theorem lz_0 {p : Program} {l : Launch} {e : Env} {s : State} {m : MethodId} {below : List Frame} {meth : Method} {c : Code} {D : DX} {cA : Nat → ClassId} {z0 N b L : Nat} {xs : Nat → Int32} {Q : State → Prop} {cells slots i x mm : Nat} {J : PS → Prop} {S : PS} {H : Heap} {locs : List Loc} {ls : Array Slot} (C : CX p s m #[.ref b] meth c code 4 RL (some .boolean) D cA z0) (hX : va_X b L xs s s.heap) (hbl : b < s.heap.size) (hbA : ¬ zA z0 b) (hi : i + 6 ≤ L) (hL : L ≤ 384) (hcc : cells + 4 ≤ 600000) (hcs : slots + 500 ≤ 7302250) (hV : XV D cA z0 s S H locs) (hl : lv_has ls 4 [(0, .ref b), (1, .ref x), (2, .ref mm), (3, .int (nI i))]) (hM : lc_0 N x mm J S (xs (i + 1)) (xs (i + 2)) (xs (i + 3)) (xs (i + 4)) (xs (i + 5)))
    (next : ∀ (S2 : PS) (H2 : Heap) (locs2 : List Loc), J S2 → XV D cA z0 s S2 H2 locs2 → W p l e room_1 s m #[.ref b] below meth c H2 locs2 (cells + 2) (slots + 201) Q (F0 m 1645 ls [])) : W p l e room_1 s m #[.ref b] below meth c H locs cells slots Q (F0 m 224 ls []) := by
  obtain ⟨hx, hb, hml, hown, hts, hK, hz, hlk, hr⟩ := id C
  unfold lc_0 at hM
  refine lv_aload_n hx hb dL_law_224 rfl (lv_at hl 1 rfl) ?_
  refine lv_aload_n hx hb dL_law_225 rfl (lv_at hl 0 rfl) ?_
  refine lv_iload_n hx hb dL_law_226 rfl (lv_at hl 3 rfl) ?_
  refine lv_iconst (v := 1) hx hb dL_law_227 (by decide) ?_
  refine lv_iadd hx hb dL_law_228 ?_
  refine va_sld hx hb hX hbl hbA hV.2 (lw_in1 hi hL) dL_law_229 ?_
  rw [lw_at1 hi hL]
  refine lv_aload_n hx hb dL_law_230 rfl (lv_at hl 0 rfl) ?_
  refine lv_iload_n hx hb dL_law_231 rfl (lv_at hl 3 rfl) ?_
  refine lv_iconst (v := 2) hx hb dL_law_232 (by decide) ?_
  refine lv_iadd hx hb dL_law_233 ?_
  refine va_sld hx hb hX hbl hbA hV.2 (lw_in2 hi hL) dL_law_234 ?_
  rw [lw_at2 hi hL]
  refine lv_aload_n hx hb dL_law_235 rfl (lv_at hl 0 rfl) ?_
  refine lv_iload_n hx hb dL_law_236 rfl (lv_at hl 3 rfl) ?_
  refine lv_iconst (v := 3) hx hb dL_law_237 (by decide) ?_
  refine lv_iadd hx hb dL_law_238 ?_
  refine va_sld hx hb hX hbl hbA hV.2 (lw_in3 hi hL) dL_law_239 ?_
  rw [lw_at3 hi hL]
  refine lv_aload_n hx hb dL_law_240 rfl (lv_at hl 0 rfl) ?_
  refine lv_iload_n hx hb dL_law_241 rfl (lv_at hl 3 rfl) ?_
  refine lv_iconst (v := 4) hx hb dL_law_242 (by decide) ?_
  refine lv_iadd hx hb dL_law_243 ?_
  refine va_sld hx hb hX hbl hbA hV.2 (lw_in4 hi hL) dL_law_244 ?_
  rw [lw_at4 hi hL]
  refine lv_aload_n hx hb dL_law_245 rfl (lv_at hl 0 rfl) ?_
  refine lv_iload_n hx hb dL_law_246 rfl (lv_at hl 3 rfl) ?_
  refine lv_iconst (v := 5) hx hb dL_law_247 (by decide) ?_
  refine lv_iadd hx hb dL_law_248 ?_
  refine va_sld hx hb hX hbl hbA hV.2 (lw_in5 hi hL) dL_law_249 ?_
  rw [lw_at5 hi hL]
  have hk1 := hM.1
  have hM := hM.2
  refine x_ci hV (x_runV (As := [.int (xs (i + 1)), .int (xs (i + 2)), .int (xs (i + 3)), .int (xs (i + 4)), .int (xs (i + 5))]) (rest := []) C hV mi_X10_part wl_L_13 hk1 (c_X10_part hM) ⟨Nat.le_of_ble_eq_true rfl, Nat.le_of_ble_eq_true rfl⟩ rfl hl.1 (Nat.le_of_ble_eq_true rfl) dL_law_250 ⟨by show cells + 0 ≤ 600000; omega, by show slots + 0 ≤ 7302250; omega⟩) (fun r3 S2 H locs hV hM => ?_)
  refine lv_aload_n hx hb dL_law_253 rfl (lv_at hl 2 rfl) ?_
  refine lv_aload_n hx hb dL_law_254 rfl (lv_at hl 0 rfl) ?_
  refine lv_iload_n hx hb dL_law_255 rfl (lv_at hl 3 rfl) ?_
  refine lv_iconst (v := 1) hx hb dL_law_256 (by decide) ?_
  refine lv_iadd hx hb dL_law_257 ?_
  refine va_sld hx hb hX hbl hbA hV.2 (lw_in1 hi hL) dL_law_258 ?_
  rw [lw_at1 hi hL]
  refine lv_aload_n hx hb dL_law_259 rfl (lv_at hl 0 rfl) ?_
  refine lv_iload_n hx hb dL_law_260 rfl (lv_at hl 3 rfl) ?_
  refine lv_iconst (v := 2) hx hb dL_law_261 (by decide) ?_
  refine lv_iadd hx hb dL_law_262 ?_
  refine va_sld hx hb hX hbl hbA hV.2 (lw_in2 hi hL) dL_law_263 ?_
  rw [lw_at2 hi hL]
  refine lv_aload_n hx hb dL_law_264 rfl (lv_at hl 0 rfl) ?_
  refine lv_iload_n hx hb dL_law_265 rfl (lv_at hl 3 rfl) ?_
  refine lv_iconst (v := 3) hx hb dL_law_266 (by decide) ?_
  refine lv_iadd hx hb dL_law_267 ?_
  refine va_sld hx hb hX hbl hbA hV.2 (lw_in3 hi hL) dL_law_268 ?_
  rw [lw_at3 hi hL]
  refine lv_aload_n hx hb dL_law_269 rfl (lv_at hl 0 rfl) ?_
  refine lv_iload_n hx hb dL_law_270 rfl (lv_at hl 3 rfl) ?_
  refine lv_iconst (v := 4) hx hb dL_law_271 (by decide) ?_
  refine lv_iadd hx hb dL_law_272 ?_
  refine va_sld hx hb hX hbl hbA hV.2 (lw_in4 hi hL) dL_law_273 ?_
  rw [lw_at4 hi hL]
  refine lv_aload_n hx hb dL_law_274 rfl (lv_at hl 0 rfl) ?_
  refine lv_iload_n hx hb dL_law_275 rfl (lv_at hl 3 rfl) ?_
  refine lv_iconst (v := 5) hx hb dL_law_276 (by decide) ?_
  refine lv_iadd hx hb dL_law_277 ?_
  refine va_sld hx hb hX hbl hbA hV.2 (lw_in5 hi hL) dL_law_278 ?_
  rw [lw_at5 hi hL]
  have hk4 := hM.1
  have hM := hM.2
  refine x_ci hV (x_runV (As := [.int (xs (i + 1)), .int (xs (i + 2)), .int (xs (i + 3)), .int (xs (i + 4)), .int (xs (i + 5))]) (rest := [.int r3]) C hV mi_X11_part wl_L_17 hk4 (c_X11_part hM) ⟨Nat.le_of_ble_eq_true rfl, Nat.le_of_ble_eq_true rfl⟩ rfl hl.1 (Nat.le_of_ble_eq_true rfl) dL_law_279 ⟨by show cells + 0 + 0 ≤ 600000; omega, by show slots + 0 + 0 ≤ 7302250; omega⟩) (fun r6 S5 H locs hV hM => ?_)
  refine lv_icmp_eq (tgt := 1645) hx hb dL_law_282 (by decide) (fun _ => ?_) (fun c => absurd hM.1 c)
  have hM := hM.2
  refine W.widen (k := cells + 2) (n := slots + 201) (by show cells + 0 + 0 ≤ _; omega) (by show slots + 0 + 0 ≤ _; omega) ?_
  exact next _ _ _ hM hV
set_option maxHeartbeats 4000000 in
set_option maxRecDepth 100000 in
theorem lz_1 {p : Program} {l : Launch} {e : Env} {s : State} {m : MethodId} {below : List Frame} {meth : Method} {c : Code} {D : DX} {cA : Nat → ClassId} {z0 N b L : Nat} {xs : Nat → Int32} {Q : State → Prop} {cells slots i x mm : Nat} {J : PS → Prop} {S : PS} {H : Heap} {locs : List Loc} {ls : Array Slot} (C : CX p s m #[.ref b] meth c code 4 RL (some .boolean) D cA z0) (hX : va_X b L xs s s.heap) (hbl : b < s.heap.size) (hbA : ¬ zA z0 b) (hi : i + 6 ≤ L) (hL : L ≤ 384) (hcc : cells + 4 ≤ 600000) (hcs : slots + 500 ≤ 7302250) (hV : XV D cA z0 s S H locs) (hl : lv_has ls 4 [(0, .ref b), (1, .ref x), (2, .ref mm), (3, .int (nI i))]) (hM : lc_1 N x mm J S (xs (i + 1)) (xs (i + 2)))
    (next : ∀ (S2 : PS) (H2 : Heap) (locs2 : List Loc), J S2 → XV D cA z0 s S2 H2 locs2 → W p l e room_1 s m #[.ref b] below meth c H2 locs2 (cells + 2) (slots + 201) Q (F0 m 1645 ls [])) : W p l e room_1 s m #[.ref b] below meth c H locs cells slots Q (F0 m 287 ls []) := by
  obtain ⟨hx, hb, hml, hown, hts, hK, hz, hlk, hr⟩ := id C
  unfold lc_1 at hM
  refine lv_aload_n hx hb dL_law_287 rfl (lv_at hl 1 rfl) ?_
  refine lv_aload_n hx hb dL_law_288 rfl (lv_at hl 0 rfl) ?_
  refine lv_iload_n hx hb dL_law_289 rfl (lv_at hl 3 rfl) ?_
  refine lv_iconst (v := 1) hx hb dL_law_290 (by decide) ?_
  refine lv_iadd hx hb dL_law_291 ?_
  refine va_sld hx hb hX hbl hbA hV.2 (lw_in1 hi hL) dL_law_292 ?_
  rw [lw_at1 hi hL]
  refine lv_aload_n hx hb dL_law_293 rfl (lv_at hl 0 rfl) ?_
  refine lv_iload_n hx hb dL_law_294 rfl (lv_at hl 3 rfl) ?_
  refine lv_iconst (v := 2) hx hb dL_law_295 (by decide) ?_
  refine lv_iadd hx hb dL_law_296 ?_
  refine va_sld hx hb hX hbl hbA hV.2 (lw_in2 hi hL) dL_law_297 ?_
  rw [lw_at2 hi hL]
  have hk1 := hM.1
  have hM := hM.2
  refine x_ci hV (x_runV (As := [.int (xs (i + 1)), .int (xs (i + 2))]) (rest := []) C hV mi_X10_of wl_L_18 hk1 (c_X10_of hM) ⟨Nat.le_of_ble_eq_true rfl, Nat.le_of_ble_eq_true rfl⟩ rfl hl.1 (Nat.le_of_ble_eq_true rfl) dL_law_298 ⟨by show cells + 0 ≤ 600000; omega, by show slots + 0 ≤ 7302250; omega⟩) (fun r3 S2 H locs hV hM => ?_)
  refine lv_aload_n hx hb dL_law_301 rfl (lv_at hl 2 rfl) ?_
  refine lv_aload_n hx hb dL_law_302 rfl (lv_at hl 0 rfl) ?_
  refine lv_iload_n hx hb dL_law_303 rfl (lv_at hl 3 rfl) ?_
  refine lv_iconst (v := 1) hx hb dL_law_304 (by decide) ?_
  refine lv_iadd hx hb dL_law_305 ?_
  refine va_sld hx hb hX hbl hbA hV.2 (lw_in1 hi hL) dL_law_306 ?_
  rw [lw_at1 hi hL]
  refine lv_aload_n hx hb dL_law_307 rfl (lv_at hl 0 rfl) ?_
  refine lv_iload_n hx hb dL_law_308 rfl (lv_at hl 3 rfl) ?_
  refine lv_iconst (v := 2) hx hb dL_law_309 (by decide) ?_
  refine lv_iadd hx hb dL_law_310 ?_
  refine va_sld hx hb hX hbl hbA hV.2 (lw_in2 hi hL) dL_law_311 ?_
  rw [lw_at2 hi hL]
  have hk4 := hM.1
  have hM := hM.2
  refine x_ci hV (x_runV (As := [.int (xs (i + 1)), .int (xs (i + 2))]) (rest := [.int r3]) C hV mi_X11_of wl_L_22 hk4 (c_X11_of hM) ⟨Nat.le_of_ble_eq_true rfl, Nat.le_of_ble_eq_true rfl⟩ rfl hl.1 (Nat.le_of_ble_eq_true rfl) dL_law_312 ⟨by show cells + 0 + 0 ≤ 600000; omega, by show slots + 0 + 0 ≤ 7302250; omega⟩) (fun r6 S5 H locs hV hM => ?_)
  refine lv_icmp_eq (tgt := 1645) hx hb dL_law_315 (by decide) (fun _ => ?_) (fun c => absurd hM.1 c)
  have hM := hM.2
  refine W.widen (k := cells + 2) (n := slots + 201) (by show cells + 0 + 0 ≤ _; omega) (by show slots + 0 + 0 ≤ _; omega) ?_
  exact next _ _ _ hM hV
set_option maxHeartbeats 4000000 in
set_option maxRecDepth 100000 in
theorem lz_2 {p : Program} {l : Launch} {e : Env} {s : State} {m : MethodId} {below : List Frame} {meth : Method} {c : Code} {D : DX} {cA : Nat → ClassId} {z0 N b L : Nat} {xs : Nat → Int32} {Q : State → Prop} {cells slots i x mm : Nat} {J : PS → Prop} {S : PS} {H : Heap} {locs : List Loc} {ls : Array Slot} (C : CX p s m #[.ref b] meth c code 4 RL (some .boolean) D cA z0) (hX : va_X b L xs s s.heap) (hbl : b < s.heap.size) (hbA : ¬ zA z0 b) (hi : i + 6 ≤ L) (hL : L ≤ 384) (hcc : cells + 4 ≤ 600000) (hcs : slots + 500 ≤ 7302250) (hV : XV D cA z0 s S H locs) (hl : lv_has ls 4 [(0, .ref b), (1, .ref x), (2, .ref mm), (3, .int (nI i))]) (hM : lc_2 N x mm J S (xs (i + 1)) (xs (i + 2)) (xs (i + 3)))
    (next : ∀ (S2 : PS) (H2 : Heap) (locs2 : List Loc), J S2 → XV D cA z0 s S2 H2 locs2 → W p l e room_1 s m #[.ref b] below meth c H2 locs2 (cells + 2) (slots + 201) Q (F0 m 1645 ls [])) : W p l e room_1 s m #[.ref b] below meth c H locs cells slots Q (F0 m 320 ls []) := by
  obtain ⟨hx, hb, hml, hown, hts, hK, hz, hlk, hr⟩ := id C
  unfold lc_2 at hM
  refine lv_aload_n hx hb dL_law_320 rfl (lv_at hl 1 rfl) ?_
  refine lv_aload_n hx hb dL_law_321 rfl (lv_at hl 0 rfl) ?_
  refine lv_iload_n hx hb dL_law_322 rfl (lv_at hl 3 rfl) ?_
  refine lv_iconst (v := 1) hx hb dL_law_323 (by decide) ?_
  refine lv_iadd hx hb dL_law_324 ?_
  refine va_sld hx hb hX hbl hbA hV.2 (lw_in1 hi hL) dL_law_325 ?_
  rw [lw_at1 hi hL]
  refine lv_aload_n hx hb dL_law_326 rfl (lv_at hl 0 rfl) ?_
  refine lv_iload_n hx hb dL_law_327 rfl (lv_at hl 3 rfl) ?_
  refine lv_iconst (v := 2) hx hb dL_law_328 (by decide) ?_
  refine lv_iadd hx hb dL_law_329 ?_
  refine va_sld hx hb hX hbl hbA hV.2 (lw_in2 hi hL) dL_law_330 ?_
  rw [lw_at2 hi hL]
  refine lv_aload_n hx hb dL_law_331 rfl (lv_at hl 0 rfl) ?_
  refine lv_iload_n hx hb dL_law_332 rfl (lv_at hl 3 rfl) ?_
  refine lv_iconst (v := 3) hx hb dL_law_333 (by decide) ?_
  refine lv_iadd hx hb dL_law_334 ?_
  refine va_sld hx hb hX hbl hbA hV.2 (lw_in3 hi hL) dL_law_335 ?_
  rw [lw_at3 hi hL]
  have hk1 := hM.1
  have hM := hM.2
  refine x_ci hV (x_runV (As := [.int (xs (i + 1)), .int (xs (i + 2)), .int (xs (i + 3))]) (rest := []) C hV mi_X10_fail wl_L_23 hk1 (c_X10_fail hM) ⟨Nat.le_of_ble_eq_true rfl, Nat.le_of_ble_eq_true rfl⟩ rfl hl.1 (Nat.le_of_ble_eq_true rfl) dL_law_336 ⟨by show cells + 0 ≤ 600000; omega, by show slots + 0 ≤ 7302250; omega⟩) (fun r3 S2 H locs hV hM => ?_)
  refine lv_aload_n hx hb dL_law_339 rfl (lv_at hl 2 rfl) ?_
  refine lv_aload_n hx hb dL_law_340 rfl (lv_at hl 0 rfl) ?_
  refine lv_iload_n hx hb dL_law_341 rfl (lv_at hl 3 rfl) ?_
  refine lv_iconst (v := 1) hx hb dL_law_342 (by decide) ?_
  refine lv_iadd hx hb dL_law_343 ?_
  refine va_sld hx hb hX hbl hbA hV.2 (lw_in1 hi hL) dL_law_344 ?_
  rw [lw_at1 hi hL]
  refine lv_aload_n hx hb dL_law_345 rfl (lv_at hl 0 rfl) ?_
  refine lv_iload_n hx hb dL_law_346 rfl (lv_at hl 3 rfl) ?_
  refine lv_iconst (v := 2) hx hb dL_law_347 (by decide) ?_
  refine lv_iadd hx hb dL_law_348 ?_
  refine va_sld hx hb hX hbl hbA hV.2 (lw_in2 hi hL) dL_law_349 ?_
  rw [lw_at2 hi hL]
  refine lv_aload_n hx hb dL_law_350 rfl (lv_at hl 0 rfl) ?_
  refine lv_iload_n hx hb dL_law_351 rfl (lv_at hl 3 rfl) ?_
  refine lv_iconst (v := 3) hx hb dL_law_352 (by decide) ?_
  refine lv_iadd hx hb dL_law_353 ?_
  refine va_sld hx hb hX hbl hbA hV.2 (lw_in3 hi hL) dL_law_354 ?_
  rw [lw_at3 hi hL]
  have hk4 := hM.1
  have hM := hM.2
  refine x_ci hV (x_runV (As := [.int (xs (i + 1)), .int (xs (i + 2)), .int (xs (i + 3))]) (rest := [.int r3]) C hV mi_X11_fail wl_L_27 hk4 (c_X11_fail hM) ⟨Nat.le_of_ble_eq_true rfl, Nat.le_of_ble_eq_true rfl⟩ rfl hl.1 (Nat.le_of_ble_eq_true rfl) dL_law_355 ⟨by show cells + 0 + 0 ≤ 600000; omega, by show slots + 0 + 0 ≤ 7302250; omega⟩) (fun r6 S5 H locs hV hM => ?_)
  refine lv_icmp_eq (tgt := 1645) hx hb dL_law_358 (by decide) (fun _ => ?_) (fun c => absurd hM.1 c)
  have hM := hM.2
  refine W.widen (k := cells + 2) (n := slots + 201) (by show cells + 0 + 0 ≤ _; omega) (by show slots + 0 + 0 ≤ _; omega) ?_
  exact next _ _ _ hM hV
set_option maxHeartbeats 4000000 in
set_option maxRecDepth 100000 in
theorem lz_3 {p : Program} {l : Launch} {e : Env} {s : State} {m : MethodId} {below : List Frame} {meth : Method} {c : Code} {D : DX} {cA : Nat → ClassId} {z0 N b L : Nat} {xs : Nat → Int32} {Q : State → Prop} {cells slots i x mm : Nat} {J : PS → Prop} {S : PS} {H : Heap} {locs : List Loc} {ls : Array Slot} (C : CX p s m #[.ref b] meth c code 4 RL (some .boolean) D cA z0) (hX : va_X b L xs s s.heap) (hbl : b < s.heap.size) (hbA : ¬ zA z0 b) (hi : i + 6 ≤ L) (hL : L ≤ 384) (hcc : cells + 4 ≤ 600000) (hcs : slots + 500 ≤ 7302250) (hV : XV D cA z0 s S H locs) (hl : lv_has ls 4 [(0, .ref b), (1, .ref x), (2, .ref mm), (3, .int (nI i))]) (hM : lc_3 N x mm J S (xs (i + 1)))
    (next : ∀ (S2 : PS) (H2 : Heap) (locs2 : List Loc), J S2 → XV D cA z0 s S2 H2 locs2 → W p l e room_1 s m #[.ref b] below meth c H2 locs2 (cells + 2) (slots + 201) Q (F0 m 1645 ls [])) : W p l e room_1 s m #[.ref b] below meth c H locs cells slots Q (F0 m 363 ls []) := by
  obtain ⟨hx, hb, hml, hown, hts, hK, hz, hlk, hr⟩ := id C
  unfold lc_3 at hM
  refine lv_aload_n hx hb dL_law_363 rfl (lv_at hl 1 rfl) ?_
  refine lv_aload_n hx hb dL_law_364 rfl (lv_at hl 0 rfl) ?_
  refine lv_iload_n hx hb dL_law_365 rfl (lv_at hl 3 rfl) ?_
  refine lv_iconst (v := 1) hx hb dL_law_366 (by decide) ?_
  refine lv_iadd hx hb dL_law_367 ?_
  refine va_sld hx hb hX hbl hbA hV.2 (lw_in1 hi hL) dL_law_368 ?_
  rw [lw_at1 hi hL]
  have hk1 := hM.1
  have hM := hM.2
  refine x_ci hV (x_runV (As := [.int (xs (i + 1))]) (rest := []) C hV mi_X10_later wl_L_28 hk1 (c_X10_later hM) ⟨Nat.le_of_ble_eq_true rfl, Nat.le_of_ble_eq_true rfl⟩ rfl hl.1 (Nat.le_of_ble_eq_true rfl) dL_law_369 ⟨by show cells + 0 ≤ 600000; omega, by show slots + 0 ≤ 7302250; omega⟩) (fun r3 S2 H locs hV hM => ?_)
  refine lv_aload_n hx hb dL_law_372 rfl (lv_at hl 2 rfl) ?_
  refine lv_aload_n hx hb dL_law_373 rfl (lv_at hl 0 rfl) ?_
  refine lv_iload_n hx hb dL_law_374 rfl (lv_at hl 3 rfl) ?_
  refine lv_iconst (v := 1) hx hb dL_law_375 (by decide) ?_
  refine lv_iadd hx hb dL_law_376 ?_
  refine va_sld hx hb hX hbl hbA hV.2 (lw_in1 hi hL) dL_law_377 ?_
  rw [lw_at1 hi hL]
  have hk4 := hM.1
  have hM := hM.2
  refine x_ci hV (x_runV (As := [.int (xs (i + 1))]) (rest := [.int r3]) C hV mi_X11_later wl_L_32 hk4 (c_X11_later hM) ⟨Nat.le_of_ble_eq_true rfl, Nat.le_of_ble_eq_true rfl⟩ rfl hl.1 (Nat.le_of_ble_eq_true rfl) dL_law_378 ⟨by show cells + 0 + 0 ≤ 600000; omega, by show slots + 0 + 0 ≤ 7302250; omega⟩) (fun r6 S5 H locs hV hM => ?_)
  refine lv_icmp_eq (tgt := 1645) hx hb dL_law_381 (by decide) (fun _ => ?_) (fun c => absurd hM.1 c)
  have hM := hM.2
  refine W.widen (k := cells + 2) (n := slots + 201) (by show cells + 0 + 0 ≤ _; omega) (by show slots + 0 + 0 ≤ _; omega) ?_
  exact next _ _ _ hM hV
set_option maxHeartbeats 4000000 in
set_option maxRecDepth 100000 in
theorem lz_4 {p : Program} {l : Launch} {e : Env} {s : State} {m : MethodId} {below : List Frame} {meth : Method} {c : Code} {D : DX} {cA : Nat → ClassId} {z0 N b L : Nat} {xs : Nat → Int32} {Q : State → Prop} {cells slots i x mm : Nat} {J : PS → Prop} {S : PS} {H : Heap} {locs : List Loc} {ls : Array Slot} (C : CX p s m #[.ref b] meth c code 4 RL (some .boolean) D cA z0) (hX : va_X b L xs s s.heap) (hbl : b < s.heap.size) (hbA : ¬ zA z0 b) (hi : i + 6 ≤ L) (hL : L ≤ 384) (hcc : cells + 4 ≤ 600000) (hcs : slots + 500 ≤ 7302250) (hV : XV D cA z0 s S H locs) (hl : lv_has ls 4 [(0, .ref b), (1, .ref x), (2, .ref mm), (3, .int (nI i))]) (hM : lc_4 N x mm J S (xs (i + 1)))
    (next : ∀ (S2 : PS) (H2 : Heap) (locs2 : List Loc), J S2 → XV D cA z0 s S2 H2 locs2 → W p l e room_1 s m #[.ref b] below meth c H2 locs2 (cells + 2) (slots + 201) Q (F0 m 1645 ls [])) : W p l e room_1 s m #[.ref b] below meth c H locs cells slots Q (F0 m 386 ls []) := by
  obtain ⟨hx, hb, hml, hown, hts, hK, hz, hlk, hr⟩ := id C
  unfold lc_4 at hM
  refine lv_aload_n hx hb dL_law_386 rfl (lv_at hl 1 rfl) ?_
  refine lv_aload_n hx hb dL_law_387 rfl (lv_at hl 0 rfl) ?_
  refine lv_iload_n hx hb dL_law_388 rfl (lv_at hl 3 rfl) ?_
  refine lv_iconst (v := 1) hx hb dL_law_389 (by decide) ?_
  refine lv_iadd hx hb dL_law_390 ?_
  refine va_sld hx hb hX hbl hbA hV.2 (lw_in1 hi hL) dL_law_391 ?_
  rw [lw_at1 hi hL]
  have hk1 := hM.1
  have hM := hM.2
  refine x_ci hV (x_runV (As := [.int (xs (i + 1))]) (rest := []) C hV mi_X10_noise wl_L_33 hk1 (c_X10_noise hM) ⟨Nat.le_of_ble_eq_true rfl, Nat.le_of_ble_eq_true rfl⟩ rfl hl.1 (Nat.le_of_ble_eq_true rfl) dL_law_392 ⟨by show cells + 0 ≤ 600000; omega, by show slots + 0 ≤ 7302250; omega⟩) (fun r3 S2 H locs hV hM => ?_)
  refine lv_aload_n hx hb dL_law_395 rfl (lv_at hl 2 rfl) ?_
  refine lv_aload_n hx hb dL_law_396 rfl (lv_at hl 0 rfl) ?_
  refine lv_iload_n hx hb dL_law_397 rfl (lv_at hl 3 rfl) ?_
  refine lv_iconst (v := 1) hx hb dL_law_398 (by decide) ?_
  refine lv_iadd hx hb dL_law_399 ?_
  refine va_sld hx hb hX hbl hbA hV.2 (lw_in1 hi hL) dL_law_400 ?_
  rw [lw_at1 hi hL]
  have hk4 := hM.1
  have hM := hM.2
  refine x_ci hV (x_runV (As := [.int (xs (i + 1))]) (rest := [.int r3]) C hV mi_X11_noise wl_L_36 hk4 (c_X11_noise hM) ⟨Nat.le_of_ble_eq_true rfl, Nat.le_of_ble_eq_true rfl⟩ rfl hl.1 (Nat.le_of_ble_eq_true rfl) dL_law_401 ⟨by show cells + 0 + 0 ≤ 600000; omega, by show slots + 0 + 0 ≤ 7302250; omega⟩) (fun r6 S5 H locs hV hM => ?_)
  refine lv_icmp_eq (tgt := 1645) hx hb dL_law_404 (by decide) (fun _ => ?_) (fun c => absurd hM.1 c)
  have hM := hM.2
  refine W.widen (k := cells + 2) (n := slots + 201) (by show cells + 0 + 0 ≤ _; omega) (by show slots + 0 + 0 ≤ _; omega) ?_
  exact next _ _ _ hM hV
set_option maxHeartbeats 4000000 in
set_option maxRecDepth 100000 in
theorem lz_5 {p : Program} {l : Launch} {e : Env} {s : State} {m : MethodId} {below : List Frame} {meth : Method} {c : Code} {D : DX} {cA : Nat → ClassId} {z0 N b L : Nat} {xs : Nat → Int32} {Q : State → Prop} {cells slots i x mm : Nat} {J : PS → Prop} {S : PS} {H : Heap} {locs : List Loc} {ls : Array Slot} (C : CX p s m #[.ref b] meth c code 4 RL (some .boolean) D cA z0) (hX : va_X b L xs s s.heap) (hbl : b < s.heap.size) (hbA : ¬ zA z0 b) (hi : i + 6 ≤ L) (hL : L ≤ 384) (hcc : cells + 4 ≤ 600000) (hcs : slots + 500 ≤ 7302250) (hV : XV D cA z0 s S H locs) (hl : lv_has ls 4 [(0, .ref b), (1, .ref x), (2, .ref mm), (3, .int (nI i))]) (hM : lc_5 N x mm J S (xs (i + 1)))
    (next : ∀ (S2 : PS) (H2 : Heap) (locs2 : List Loc), J S2 → XV D cA z0 s S2 H2 locs2 → W p l e room_1 s m #[.ref b] below meth c H2 locs2 (cells + 2) (slots + 201) Q (F0 m 1645 ls [])) : W p l e room_1 s m #[.ref b] below meth c H locs cells slots Q (F0 m 409 ls []) := by
  obtain ⟨hx, hb, hml, hown, hts, hK, hz, hlk, hr⟩ := id C
  unfold lc_5 at hM
  refine lv_aload_n hx hb dL_law_409 rfl (lv_at hl 1 rfl) ?_
  refine lv_aload_n hx hb dL_law_410 rfl (lv_at hl 0 rfl) ?_
  refine lv_iload_n hx hb dL_law_411 rfl (lv_at hl 3 rfl) ?_
  refine lv_iconst (v := 1) hx hb dL_law_412 (by decide) ?_
  refine lv_iadd hx hb dL_law_413 ?_
  refine va_sld hx hb hX hbl hbA hV.2 (lw_in1 hi hL) dL_law_414 ?_
  rw [lw_at1 hi hL]
  have hk1 := hM.1
  have hM := hM.2
  refine x_ci hV (x_runV (As := [.int (xs (i + 1))]) (rest := []) C hV mi_X10_lots wl_L_37 hk1 (c_X10_lots hM) ⟨Nat.le_of_ble_eq_true rfl, Nat.le_of_ble_eq_true rfl⟩ rfl hl.1 (Nat.le_of_ble_eq_true rfl) dL_law_415 ⟨by show cells + 0 ≤ 600000; omega, by show slots + 0 ≤ 7302250; omega⟩) (fun r3 S2 H locs hV hM => ?_)
  refine lv_aload_n hx hb dL_law_418 rfl (lv_at hl 2 rfl) ?_
  refine lv_aload_n hx hb dL_law_419 rfl (lv_at hl 0 rfl) ?_
  refine lv_iload_n hx hb dL_law_420 rfl (lv_at hl 3 rfl) ?_
  refine lv_iconst (v := 1) hx hb dL_law_421 (by decide) ?_
  refine lv_iadd hx hb dL_law_422 ?_
  refine va_sld hx hb hX hbl hbA hV.2 (lw_in1 hi hL) dL_law_423 ?_
  rw [lw_at1 hi hL]
  have hk4 := hM.1
  have hM := hM.2
  refine x_ci hV (x_runV (As := [.int (xs (i + 1))]) (rest := [.int r3]) C hV mi_X11_lots wl_L_40 hk4 (c_X11_lots hM) ⟨Nat.le_of_ble_eq_true rfl, Nat.le_of_ble_eq_true rfl⟩ rfl hl.1 (Nat.le_of_ble_eq_true rfl) dL_law_424 ⟨by show cells + 0 + 0 ≤ 600000; omega, by show slots + 0 + 0 ≤ 7302250; omega⟩) (fun r6 S5 H locs hV hM => ?_)
  refine lv_icmp_eq (tgt := 1645) hx hb dL_law_427 (by decide) (fun _ => ?_) (fun c => absurd hM.1 c)
  have hM := hM.2
  refine W.widen (k := cells + 2) (n := slots + 201) (by show cells + 0 + 0 ≤ _; omega) (by show slots + 0 + 0 ≤ _; omega) ?_
  exact next _ _ _ hM hV
set_option maxHeartbeats 4000000 in
set_option maxRecDepth 100000 in
theorem lz_6 {p : Program} {l : Launch} {e : Env} {s : State} {m : MethodId} {below : List Frame} {meth : Method} {c : Code} {D : DX} {cA : Nat → ClassId} {z0 N b L : Nat} {xs : Nat → Int32} {Q : State → Prop} {cells slots i x mm : Nat} {J : PS → Prop} {S : PS} {H : Heap} {locs : List Loc} {ls : Array Slot} (C : CX p s m #[.ref b] meth c code 4 RL (some .boolean) D cA z0) (hX : va_X b L xs s s.heap) (hbl : b < s.heap.size) (hbA : ¬ zA z0 b) (hi : i + 6 ≤ L) (hL : L ≤ 384) (hcc : cells + 4 ≤ 600000) (hcs : slots + 500 ≤ 7302250) (hV : XV D cA z0 s S H locs) (hl : lv_has ls 4 [(0, .ref b), (1, .ref x), (2, .ref mm), (3, .int (nI i))]) (hM : lc_6 N x mm J S (xs (i + 1)))
    (next : ∀ (S2 : PS) (H2 : Heap) (locs2 : List Loc), J S2 → XV D cA z0 s S2 H2 locs2 → W p l e room_1 s m #[.ref b] below meth c H2 locs2 (cells + 2) (slots + 201) Q (F0 m 1645 ls [])) : W p l e room_1 s m #[.ref b] below meth c H locs cells slots Q (F0 m 432 ls []) := by
  obtain ⟨hx, hb, hml, hown, hts, hK, hz, hlk, hr⟩ := id C
  unfold lc_6 at hM
  refine lv_aload_n hx hb dL_law_432 rfl (lv_at hl 1 rfl) ?_
  refine lv_aload_n hx hb dL_law_433 rfl (lv_at hl 0 rfl) ?_
  refine lv_iload_n hx hb dL_law_434 rfl (lv_at hl 3 rfl) ?_
  refine lv_iconst (v := 1) hx hb dL_law_435 (by decide) ?_
  refine lv_iadd hx hb dL_law_436 ?_
  refine va_sld hx hb hX hbl hbA hV.2 (lw_in1 hi hL) dL_law_437 ?_
  rw [lw_at1 hi hL]
  have hk1 := hM.1
  have hM := hM.2
  refine x_ci hV (x_runV (As := [.int (xs (i + 1))]) (rest := []) C hV mi_X10_run wl_L_41 hk1 (c_X10_run hM) ⟨Nat.le_of_ble_eq_true rfl, Nat.le_of_ble_eq_true rfl⟩ rfl hl.1 (Nat.le_of_ble_eq_true rfl) dL_law_438 ⟨by show cells + 0 ≤ 600000; omega, by show slots + 0 ≤ 7302250; omega⟩) (fun r3 S2 H locs hV hM => ?_)
  refine lv_aload_n hx hb dL_law_441 rfl (lv_at hl 2 rfl) ?_
  refine lv_aload_n hx hb dL_law_442 rfl (lv_at hl 0 rfl) ?_
  refine lv_iload_n hx hb dL_law_443 rfl (lv_at hl 3 rfl) ?_
  refine lv_iconst (v := 1) hx hb dL_law_444 (by decide) ?_
  refine lv_iadd hx hb dL_law_445 ?_
  refine va_sld hx hb hX hbl hbA hV.2 (lw_in1 hi hL) dL_law_446 ?_
  rw [lw_at1 hi hL]
  have hk4 := hM.1
  have hM := hM.2
  refine x_ci hV (x_runV (As := [.int (xs (i + 1))]) (rest := [.int r3]) C hV mi_X11_run wl_L_44 hk4 (c_X11_run hM) ⟨Nat.le_of_ble_eq_true rfl, Nat.le_of_ble_eq_true rfl⟩ rfl hl.1 (Nat.le_of_ble_eq_true rfl) dL_law_447 ⟨by show cells + 0 + 0 ≤ 600000; omega, by show slots + 0 + 0 ≤ 7302250; omega⟩) (fun r6 S5 H locs hV hM => ?_)
  refine lv_icmp_eq (tgt := 1645) hx hb dL_law_450 (by decide) (fun _ => ?_) (fun c => absurd hM.1 c)
  have hM := hM.2
  refine W.widen (k := cells + 2) (n := slots + 201) (by show cells + 0 + 0 ≤ _; omega) (by show slots + 0 + 0 ≤ _; omega) ?_
  exact next _ _ _ hM hV
set_option maxHeartbeats 4000000 in
set_option maxRecDepth 100000 in
theorem lz_7 {p : Program} {l : Launch} {e : Env} {s : State} {m : MethodId} {below : List Frame} {meth : Method} {c : Code} {D : DX} {cA : Nat → ClassId} {z0 N b L : Nat} {xs : Nat → Int32} {Q : State → Prop} {cells slots i x mm : Nat} {J : PS → Prop} {S : PS} {H : Heap} {locs : List Loc} {ls : Array Slot} (C : CX p s m #[.ref b] meth c code 4 RL (some .boolean) D cA z0) (hX : va_X b L xs s s.heap) (hbl : b < s.heap.size) (hbA : ¬ zA z0 b) (hi : i + 6 ≤ L) (hL : L ≤ 384) (hcc : cells + 4 ≤ 600000) (hcs : slots + 500 ≤ 7302250) (hV : XV D cA z0 s S H locs) (hl : lv_has ls 4 [(0, .ref b), (1, .ref x), (2, .ref mm), (3, .int (nI i))]) (hM : lc_7 N x mm J S (xs (i + 1)) (xs (i + 2)) (xs (i + 3)))
    (next : ∀ (S2 : PS) (H2 : Heap) (locs2 : List Loc), J S2 → XV D cA z0 s S2 H2 locs2 → W p l e room_1 s m #[.ref b] below meth c H2 locs2 (cells + 2) (slots + 201) Q (F0 m 1645 ls [])) : W p l e room_1 s m #[.ref b] below meth c H locs cells slots Q (F0 m 455 ls []) := by
  obtain ⟨hx, hb, hml, hown, hts, hK, hz, hlk, hr⟩ := id C
  unfold lc_7 at hM
  refine lv_aload_n hx hb dL_law_455 rfl (lv_at hl 1 rfl) ?_
  refine lv_aload_n hx hb dL_law_456 rfl (lv_at hl 0 rfl) ?_
  refine lv_iload_n hx hb dL_law_457 rfl (lv_at hl 3 rfl) ?_
  refine lv_iconst (v := 1) hx hb dL_law_458 (by decide) ?_
  refine lv_iadd hx hb dL_law_459 ?_
  refine va_sld hx hb hX hbl hbA hV.2 (lw_in1 hi hL) dL_law_460 ?_
  rw [lw_at1 hi hL]
  refine lv_aload_n hx hb dL_law_461 rfl (lv_at hl 0 rfl) ?_
  refine lv_iload_n hx hb dL_law_462 rfl (lv_at hl 3 rfl) ?_
  refine lv_iconst (v := 2) hx hb dL_law_463 (by decide) ?_
  refine lv_iadd hx hb dL_law_464 ?_
  refine va_sld hx hb hX hbl hbA hV.2 (lw_in2 hi hL) dL_law_465 ?_
  rw [lw_at2 hi hL]
  refine lv_aload_n hx hb dL_law_466 rfl (lv_at hl 0 rfl) ?_
  refine lv_iload_n hx hb dL_law_467 rfl (lv_at hl 3 rfl) ?_
  refine lv_iconst (v := 3) hx hb dL_law_468 (by decide) ?_
  refine lv_iadd hx hb dL_law_469 ?_
  refine va_sld hx hb hX hbl hbA hV.2 (lw_in3 hi hL) dL_law_470 ?_
  rw [lw_at3 hi hL]
  have hk1 := hM.1
  have hM := hM.2
  refine x_ci hV (x_runV (As := [.int (xs (i + 1)), .int (xs (i + 2)), .int (xs (i + 3))]) (rest := []) C hV mi_X10_older wl_L_45 hk1 (c_X10_older hM) ⟨Nat.le_of_ble_eq_true rfl, Nat.le_of_ble_eq_true rfl⟩ rfl hl.1 (Nat.le_of_ble_eq_true rfl) dL_law_471 ⟨by show cells + 0 ≤ 600000; omega, by show slots + 0 ≤ 7302250; omega⟩) (fun r3 S2 H locs hV hM => ?_)
  refine lv_aload_n hx hb dL_law_474 rfl (lv_at hl 2 rfl) ?_
  refine lv_aload_n hx hb dL_law_475 rfl (lv_at hl 0 rfl) ?_
  refine lv_iload_n hx hb dL_law_476 rfl (lv_at hl 3 rfl) ?_
  refine lv_iconst (v := 1) hx hb dL_law_477 (by decide) ?_
  refine lv_iadd hx hb dL_law_478 ?_
  refine va_sld hx hb hX hbl hbA hV.2 (lw_in1 hi hL) dL_law_479 ?_
  rw [lw_at1 hi hL]
  refine lv_aload_n hx hb dL_law_480 rfl (lv_at hl 0 rfl) ?_
  refine lv_iload_n hx hb dL_law_481 rfl (lv_at hl 3 rfl) ?_
  refine lv_iconst (v := 2) hx hb dL_law_482 (by decide) ?_
  refine lv_iadd hx hb dL_law_483 ?_
  refine va_sld hx hb hX hbl hbA hV.2 (lw_in2 hi hL) dL_law_484 ?_
  rw [lw_at2 hi hL]
  refine lv_aload_n hx hb dL_law_485 rfl (lv_at hl 0 rfl) ?_
  refine lv_iload_n hx hb dL_law_486 rfl (lv_at hl 3 rfl) ?_
  refine lv_iconst (v := 3) hx hb dL_law_487 (by decide) ?_
  refine lv_iadd hx hb dL_law_488 ?_
  refine va_sld hx hb hX hbl hbA hV.2 (lw_in3 hi hL) dL_law_489 ?_
  rw [lw_at3 hi hL]
  have hk4 := hM.1
  have hM := hM.2
  refine x_ci hV (x_runV (As := [.int (xs (i + 1)), .int (xs (i + 2)), .int (xs (i + 3))]) (rest := [.int r3]) C hV mi_X11_older wl_L_48 hk4 (c_X11_older hM) ⟨Nat.le_of_ble_eq_true rfl, Nat.le_of_ble_eq_true rfl⟩ rfl hl.1 (Nat.le_of_ble_eq_true rfl) dL_law_490 ⟨by show cells + 0 + 0 ≤ 600000; omega, by show slots + 0 + 0 ≤ 7302250; omega⟩) (fun r6 S5 H locs hV hM => ?_)
  refine lv_icmp_eq (tgt := 1645) hx hb dL_law_493 (by decide) (fun _ => ?_) (fun c => absurd hM.1 c)
  have hM := hM.2
  refine W.widen (k := cells + 2) (n := slots + 201) (by show cells + 0 + 0 ≤ _; omega) (by show slots + 0 + 0 ≤ _; omega) ?_
  exact next _ _ _ hM hV
set_option maxHeartbeats 4000000 in
set_option maxRecDepth 100000 in
theorem lz_8 {p : Program} {l : Launch} {e : Env} {s : State} {m : MethodId} {below : List Frame} {meth : Method} {c : Code} {D : DX} {cA : Nat → ClassId} {z0 N b L : Nat} {xs : Nat → Int32} {Q : State → Prop} {cells slots i x mm : Nat} {J : PS → Prop} {S : PS} {H : Heap} {locs : List Loc} {ls : Array Slot} (C : CX p s m #[.ref b] meth c code 4 RL (some .boolean) D cA z0) (hX : va_X b L xs s s.heap) (hbl : b < s.heap.size) (hbA : ¬ zA z0 b) (hi : i + 6 ≤ L) (hL : L ≤ 384) (hcc : cells + 4 ≤ 600000) (hcs : slots + 500 ≤ 7302250) (hV : XV D cA z0 s S H locs) (hl : lv_has ls 4 [(0, .ref b), (1, .ref x), (2, .ref mm), (3, .int (nI i))]) (hM : lc_8 N x mm J S (xs (i + 1)) (xs (i + 2)))
    (next : ∀ (S2 : PS) (H2 : Heap) (locs2 : List Loc), J S2 → XV D cA z0 s S2 H2 locs2 → W p l e room_1 s m #[.ref b] below meth c H2 locs2 (cells + 2) (slots + 201) Q (F0 m 1645 ls [])) : W p l e room_1 s m #[.ref b] below meth c H locs cells slots Q (F0 m 498 ls []) := by
  obtain ⟨hx, hb, hml, hown, hts, hK, hz, hlk, hr⟩ := id C
  unfold lc_8 at hM
  refine lv_aload_n hx hb dL_law_498 rfl (lv_at hl 1 rfl) ?_
  refine lv_aload_n hx hb dL_law_499 rfl (lv_at hl 0 rfl) ?_
  refine lv_iload_n hx hb dL_law_500 rfl (lv_at hl 3 rfl) ?_
  refine lv_iconst (v := 1) hx hb dL_law_501 (by decide) ?_
  refine lv_iadd hx hb dL_law_502 ?_
  refine va_sld hx hb hX hbl hbA hV.2 (lw_in1 hi hL) dL_law_503 ?_
  rw [lw_at1 hi hL]
  refine lv_aload_n hx hb dL_law_504 rfl (lv_at hl 0 rfl) ?_
  refine lv_iload_n hx hb dL_law_505 rfl (lv_at hl 3 rfl) ?_
  refine lv_iconst (v := 2) hx hb dL_law_506 (by decide) ?_
  refine lv_iadd hx hb dL_law_507 ?_
  refine va_sld hx hb hX hbl hbA hV.2 (lw_in2 hi hL) dL_law_508 ?_
  rw [lw_at2 hi hL]
  have hk1 := hM.1
  have hM := hM.2
  refine x_ci hV (x_runV (As := [.int (xs (i + 1)), .int (xs (i + 2))]) (rest := []) C hV mi_X10_ran wl_L_49 hk1 (c_X10_ran hM) ⟨Nat.le_of_ble_eq_true rfl, Nat.le_of_ble_eq_true rfl⟩ rfl hl.1 (Nat.le_of_ble_eq_true rfl) dL_law_509 ⟨by show cells + 0 ≤ 600000; omega, by show slots + 0 ≤ 7302250; omega⟩) (fun r3 S2 H locs hV hM => ?_)
  refine lv_aload_n hx hb dL_law_512 rfl (lv_at hl 2 rfl) ?_
  refine lv_aload_n hx hb dL_law_513 rfl (lv_at hl 0 rfl) ?_
  refine lv_iload_n hx hb dL_law_514 rfl (lv_at hl 3 rfl) ?_
  refine lv_iconst (v := 1) hx hb dL_law_515 (by decide) ?_
  refine lv_iadd hx hb dL_law_516 ?_
  refine va_sld hx hb hX hbl hbA hV.2 (lw_in1 hi hL) dL_law_517 ?_
  rw [lw_at1 hi hL]
  refine lv_aload_n hx hb dL_law_518 rfl (lv_at hl 0 rfl) ?_
  refine lv_iload_n hx hb dL_law_519 rfl (lv_at hl 3 rfl) ?_
  refine lv_iconst (v := 2) hx hb dL_law_520 (by decide) ?_
  refine lv_iadd hx hb dL_law_521 ?_
  refine va_sld hx hb hX hbl hbA hV.2 (lw_in2 hi hL) dL_law_522 ?_
  rw [lw_at2 hi hL]
  have hk4 := hM.1
  have hM := hM.2
  refine x_ci hV (x_runV (As := [.int (xs (i + 1)), .int (xs (i + 2))]) (rest := [.int r3]) C hV mi_X11_ran wl_L_52 hk4 (c_X11_ran hM) ⟨Nat.le_of_ble_eq_true rfl, Nat.le_of_ble_eq_true rfl⟩ rfl hl.1 (Nat.le_of_ble_eq_true rfl) dL_law_523 ⟨by show cells + 0 + 0 ≤ 600000; omega, by show slots + 0 + 0 ≤ 7302250; omega⟩) (fun r6 S5 H locs hV hM => ?_)
  refine lv_icmp_eq (tgt := 1645) hx hb dL_law_526 (by decide) (fun _ => ?_) (fun c => absurd hM.1 c)
  have hM := hM.2
  refine W.widen (k := cells + 2) (n := slots + 201) (by show cells + 0 + 0 ≤ _; omega) (by show slots + 0 + 0 ≤ _; omega) ?_
  exact next _ _ _ hM hV
set_option maxHeartbeats 4000000 in
set_option maxRecDepth 100000 in
theorem lz_9 {p : Program} {l : Launch} {e : Env} {s : State} {m : MethodId} {below : List Frame} {meth : Method} {c : Code} {D : DX} {cA : Nat → ClassId} {z0 N b L : Nat} {xs : Nat → Int32} {Q : State → Prop} {cells slots i x mm : Nat} {J : PS → Prop} {S : PS} {H : Heap} {locs : List Loc} {ls : Array Slot} (C : CX p s m #[.ref b] meth c code 4 RL (some .boolean) D cA z0) (hX : va_X b L xs s s.heap) (hbl : b < s.heap.size) (hbA : ¬ zA z0 b) (hi : i + 6 ≤ L) (hL : L ≤ 384) (hcc : cells + 4 ≤ 600000) (hcs : slots + 500 ≤ 7302250) (hV : XV D cA z0 s S H locs) (hl : lv_has ls 4 [(0, .ref b), (1, .ref x), (2, .ref mm), (3, .int (nI i))]) (hM : lc_9 N x mm J S (xs (i + 1)) (xs (i + 2)))
    (next : ∀ (S2 : PS) (H2 : Heap) (locs2 : List Loc), J S2 → XV D cA z0 s S2 H2 locs2 → W p l e room_1 s m #[.ref b] below meth c H2 locs2 (cells + 2) (slots + 201) Q (F0 m 1645 ls [])) : W p l e room_1 s m #[.ref b] below meth c H locs cells slots Q (F0 m 531 ls []) := by
  obtain ⟨hx, hb, hml, hown, hts, hK, hz, hlk, hr⟩ := id C
  unfold lc_9 at hM
  refine lv_aload_n hx hb dL_law_531 rfl (lv_at hl 1 rfl) ?_
  refine lv_aload_n hx hb dL_law_532 rfl (lv_at hl 0 rfl) ?_
  refine lv_iload_n hx hb dL_law_533 rfl (lv_at hl 3 rfl) ?_
  refine lv_iconst (v := 1) hx hb dL_law_534 (by decide) ?_
  refine lv_iadd hx hb dL_law_535 ?_
  refine va_sld hx hb hX hbl hbA hV.2 (lw_in1 hi hL) dL_law_536 ?_
  rw [lw_at1 hi hL]
  refine lv_aload_n hx hb dL_law_537 rfl (lv_at hl 0 rfl) ?_
  refine lv_iload_n hx hb dL_law_538 rfl (lv_at hl 3 rfl) ?_
  refine lv_iconst (v := 2) hx hb dL_law_539 (by decide) ?_
  refine lv_iadd hx hb dL_law_540 ?_
  refine va_sld hx hb hX hbl hbA hV.2 (lw_in2 hi hL) dL_law_541 ?_
  rw [lw_at2 hi hL]
  refine lv_if_eq (tgt := 549) hx hb dL_law_542 (by decide) (fun c1 => ?_) (fun c1 => ?_)
  · have hM := ite_t c1 hM
    refine lv_iconst (v := 0) hx hb dL_law_549 (by decide) ?_
    have hk2 := hM.1
    have hM := hM.2
    refine x_ci hV (x_runV (As := [.int (xs (i + 1)), .int 0]) (rest := []) C hV mi_X10_tryout wl_L_53 hk2 (c_X10_tryout hM) ⟨Nat.le_of_ble_eq_true rfl, Nat.le_of_ble_eq_true rfl⟩ rfl hl.1 (Nat.le_of_ble_eq_true rfl) dL_law_550 ⟨by show cells + 0 ≤ 600000; omega, by show slots + 0 ≤ 7302250; omega⟩) (fun r4 S3 H locs hV hM => ?_)
    refine lv_aload_n hx hb dL_law_553 rfl (lv_at hl 2 rfl) ?_
    refine lv_aload_n hx hb dL_law_554 rfl (lv_at hl 0 rfl) ?_
    refine lv_iload_n hx hb dL_law_555 rfl (lv_at hl 3 rfl) ?_
    refine lv_iconst (v := 1) hx hb dL_law_556 (by decide) ?_
    refine lv_iadd hx hb dL_law_557 ?_
    refine va_sld hx hb hX hbl hbA hV.2 (lw_in1 hi hL) dL_law_558 ?_
    rw [lw_at1 hi hL]
    refine lv_aload_n hx hb dL_law_559 rfl (lv_at hl 0 rfl) ?_
    refine lv_iload_n hx hb dL_law_560 rfl (lv_at hl 3 rfl) ?_
    refine lv_iconst (v := 2) hx hb dL_law_561 (by decide) ?_
    refine lv_iadd hx hb dL_law_562 ?_
    refine va_sld hx hb hX hbl hbA hV.2 (lw_in2 hi hL) dL_law_563 ?_
    rw [lw_at2 hi hL]
    refine lv_if_eq (tgt := 571) hx hb dL_law_564 (by decide) (fun c5 => ?_) (fun c5 => ?_)
    · have hM := ite_t c5 hM
      refine lv_iconst (v := 0) hx hb dL_law_571 (by decide) ?_
      have hk6 := hM.1
      have hM := hM.2
      refine x_ci hV (x_runV (As := [.int (xs (i + 1)), .int 0]) (rest := [.int r4]) C hV mi_X11_tryout wl_L_57 hk6 (c_X11_tryout hM) ⟨Nat.le_of_ble_eq_true rfl, Nat.le_of_ble_eq_true rfl⟩ rfl hl.1 (Nat.le_of_ble_eq_true rfl) dL_law_572 ⟨by show cells + 0 + 0 ≤ 600000; omega, by show slots + 0 + 0 ≤ 7302250; omega⟩) (fun r8 S7 H locs hV hM => ?_)
      refine lv_icmp_eq (tgt := 1645) hx hb dL_law_575 (by decide) (fun _ => ?_) (fun c => absurd hM.1 c)
      have hM := hM.2
      refine W.widen (k := cells + 2) (n := slots + 201) (by show cells + 0 + 0 ≤ _; omega) (by show slots + 0 + 0 ≤ _; omega) ?_
      exact next _ _ _ hM hV
    have hM := ite_f c5 hM
    refine lv_iconst (v := 1) hx hb dL_law_567 (by decide) ?_
    refine lv_goto (tgt := 572) hx hb dL_law_568 (by decide) ?_
    have hk9 := hM.1
    have hM := hM.2
    refine x_ci hV (x_runV (As := [.int (xs (i + 1)), .int 1]) (rest := [.int r4]) C hV mi_X11_tryout wl_L_57 hk9 (c_X11_tryout hM) ⟨Nat.le_of_ble_eq_true rfl, Nat.le_of_ble_eq_true rfl⟩ rfl hl.1 (Nat.le_of_ble_eq_true rfl) dL_law_572 ⟨by show cells + 0 + 0 + 0 ≤ 600000; omega, by show slots + 0 + 0 + 0 ≤ 7302250; omega⟩) (fun r11 S10 H locs hV hM => ?_)
    refine lv_icmp_eq (tgt := 1645) hx hb dL_law_575 (by decide) (fun _ => ?_) (fun c => absurd hM.1 c)
    have hM := hM.2
    refine W.widen (k := cells + 2) (n := slots + 201) (by show cells + 0 + 0 + 0 ≤ _; omega) (by show slots + 0 + 0 + 0 ≤ _; omega) ?_
    exact next _ _ _ hM hV
  have hM := ite_f c1 hM
  refine lv_iconst (v := 1) hx hb dL_law_545 (by decide) ?_
  refine lv_goto (tgt := 550) hx hb dL_law_546 (by decide) ?_
  have hk12 := hM.1
  have hM := hM.2
  refine x_ci hV (x_runV (As := [.int (xs (i + 1)), .int 1]) (rest := []) C hV mi_X10_tryout wl_L_53 hk12 (c_X10_tryout hM) ⟨Nat.le_of_ble_eq_true rfl, Nat.le_of_ble_eq_true rfl⟩ rfl hl.1 (Nat.le_of_ble_eq_true rfl) dL_law_550 ⟨by show cells + 0 + 0 + 0 + 0 ≤ 600000; omega, by show slots + 0 + 0 + 0 + 0 ≤ 7302250; omega⟩) (fun r14 S13 H locs hV hM => ?_)
  refine lv_aload_n hx hb dL_law_553 rfl (lv_at hl 2 rfl) ?_
  refine lv_aload_n hx hb dL_law_554 rfl (lv_at hl 0 rfl) ?_
  refine lv_iload_n hx hb dL_law_555 rfl (lv_at hl 3 rfl) ?_
  refine lv_iconst (v := 1) hx hb dL_law_556 (by decide) ?_
  refine lv_iadd hx hb dL_law_557 ?_
  refine va_sld hx hb hX hbl hbA hV.2 (lw_in1 hi hL) dL_law_558 ?_
  rw [lw_at1 hi hL]
  refine lv_aload_n hx hb dL_law_559 rfl (lv_at hl 0 rfl) ?_
  refine lv_iload_n hx hb dL_law_560 rfl (lv_at hl 3 rfl) ?_
  refine lv_iconst (v := 2) hx hb dL_law_561 (by decide) ?_
  refine lv_iadd hx hb dL_law_562 ?_
  refine va_sld hx hb hX hbl hbA hV.2 (lw_in2 hi hL) dL_law_563 ?_
  rw [lw_at2 hi hL]
  refine lv_if_eq (tgt := 571) hx hb dL_law_564 (by decide) (fun c15 => ?_) (fun c15 => ?_)
  · have hM := ite_t c15 hM
    refine lv_iconst (v := 0) hx hb dL_law_571 (by decide) ?_
    have hk16 := hM.1
    have hM := hM.2
    refine x_ci hV (x_runV (As := [.int (xs (i + 1)), .int 0]) (rest := [.int r14]) C hV mi_X11_tryout wl_L_57 hk16 (c_X11_tryout hM) ⟨Nat.le_of_ble_eq_true rfl, Nat.le_of_ble_eq_true rfl⟩ rfl hl.1 (Nat.le_of_ble_eq_true rfl) dL_law_572 ⟨by show cells + 0 + 0 + 0 + 0 + 0 ≤ 600000; omega, by show slots + 0 + 0 + 0 + 0 + 0 ≤ 7302250; omega⟩) (fun r18 S17 H locs hV hM => ?_)
    refine lv_icmp_eq (tgt := 1645) hx hb dL_law_575 (by decide) (fun _ => ?_) (fun c => absurd hM.1 c)
    have hM := hM.2
    refine W.widen (k := cells + 2) (n := slots + 201) (by show cells + 0 + 0 + 0 + 0 + 0 ≤ _; omega) (by show slots + 0 + 0 + 0 + 0 + 0 ≤ _; omega) ?_
    exact next _ _ _ hM hV
  have hM := ite_f c15 hM
  refine lv_iconst (v := 1) hx hb dL_law_567 (by decide) ?_
  refine lv_goto (tgt := 572) hx hb dL_law_568 (by decide) ?_
  have hk19 := hM.1
  have hM := hM.2
  refine x_ci hV (x_runV (As := [.int (xs (i + 1)), .int 1]) (rest := [.int r14]) C hV mi_X11_tryout wl_L_57 hk19 (c_X11_tryout hM) ⟨Nat.le_of_ble_eq_true rfl, Nat.le_of_ble_eq_true rfl⟩ rfl hl.1 (Nat.le_of_ble_eq_true rfl) dL_law_572 ⟨by show cells + 0 + 0 + 0 + 0 + 0 + 0 ≤ 600000; omega, by show slots + 0 + 0 + 0 + 0 + 0 + 0 ≤ 7302250; omega⟩) (fun r21 S20 H locs hV hM => ?_)
  refine lv_icmp_eq (tgt := 1645) hx hb dL_law_575 (by decide) (fun _ => ?_) (fun c => absurd hM.1 c)
  have hM := hM.2
  refine W.widen (k := cells + 2) (n := slots + 201) (by show cells + 0 + 0 + 0 + 0 + 0 + 0 ≤ _; omega) (by show slots + 0 + 0 + 0 + 0 + 0 + 0 ≤ _; omega) ?_
  exact next _ _ _ hM hV
set_option maxHeartbeats 4000000 in
set_option maxRecDepth 100000 in
theorem lz_10 {p : Program} {l : Launch} {e : Env} {s : State} {m : MethodId} {below : List Frame} {meth : Method} {c : Code} {D : DX} {cA : Nat → ClassId} {z0 N b L : Nat} {xs : Nat → Int32} {Q : State → Prop} {cells slots i x mm : Nat} {J : PS → Prop} {S : PS} {H : Heap} {locs : List Loc} {ls : Array Slot} (C : CX p s m #[.ref b] meth c code 4 RL (some .boolean) D cA z0) (hX : va_X b L xs s s.heap) (hbl : b < s.heap.size) (hbA : ¬ zA z0 b) (hi : i + 6 ≤ L) (hL : L ≤ 384) (hcc : cells + 4 ≤ 600000) (hcs : slots + 500 ≤ 7302250) (hV : XV D cA z0 s S H locs) (hl : lv_has ls 4 [(0, .ref b), (1, .ref x), (2, .ref mm), (3, .int (nI i))]) (hM : lc_10 N x mm J S (xs (i + 1)) (xs (i + 2)) (xs (i + 3)))
    (next : ∀ (S2 : PS) (H2 : Heap) (locs2 : List Loc), J S2 → XV D cA z0 s S2 H2 locs2 → W p l e room_1 s m #[.ref b] below meth c H2 locs2 (cells + 2) (slots + 201) Q (F0 m 1645 ls [])) : W p l e room_1 s m #[.ref b] below meth c H locs cells slots Q (F0 m 580 ls []) := by
  obtain ⟨hx, hb, hml, hown, hts, hK, hz, hlk, hr⟩ := id C
  unfold lc_10 at hM
  refine lv_aload_n hx hb dL_law_580 rfl (lv_at hl 1 rfl) ?_
  refine lv_aload_n hx hb dL_law_581 rfl (lv_at hl 0 rfl) ?_
  refine lv_iload_n hx hb dL_law_582 rfl (lv_at hl 3 rfl) ?_
  refine lv_iconst (v := 1) hx hb dL_law_583 (by decide) ?_
  refine lv_iadd hx hb dL_law_584 ?_
  refine va_sld hx hb hX hbl hbA hV.2 (lw_in1 hi hL) dL_law_585 ?_
  rw [lw_at1 hi hL]
  refine lv_i2l hx hb dL_law_586 rfl ?_
  refine lv_bipush (v := 32) hx hb dL_law_587 (by decide) ?_
  refine lv_lshl hx hb dL_law_589 rfl ?_
  refine lv_aload_n hx hb dL_law_590 rfl (lv_at hl 0 rfl) ?_
  refine lv_iload_n hx hb dL_law_591 rfl (lv_at hl 3 rfl) ?_
  refine lv_iconst (v := 2) hx hb dL_law_592 (by decide) ?_
  refine lv_iadd hx hb dL_law_593 ?_
  refine va_sld hx hb hX hbl hbA hV.2 (lw_in2 hi hL) dL_law_594 ?_
  rw [lw_at2 hi hL]
  refine lv_i2l hx hb dL_law_595 rfl ?_
  refine lv_ldc2 hx hb hown (hts _ wc_L_58) dL_law_596 ?_
  refine lv_land hx hb dL_law_599 ?_
  refine lv_lor hx hb dL_law_600 ?_
  refine lv_aload_n hx hb dL_law_601 rfl (lv_at hl 0 rfl) ?_
  refine lv_iload_n hx hb dL_law_602 rfl (lv_at hl 3 rfl) ?_
  refine lv_iconst (v := 3) hx hb dL_law_603 (by decide) ?_
  refine lv_iadd hx hb dL_law_604 ?_
  refine va_sld hx hb hX hbl hbA hV.2 (lw_in3 hi hL) dL_law_605 ?_
  rw [lw_at3 hi hL]
  have hk1 := hM.1
  have hM := hM.2
  refine x_ci hV (x_runV (As := [.long (((xs (i + 1)).toInt64 <<< ((32 : Int32).toInt64 &&& 63)) ||| ((xs (i + 2)).toInt64 &&& (4294967295 : Int64))), .int (xs (i + 3))]) (rest := []) C hV mi_X10_feed wl_L_60 hk1 (c_X10_feed hM) ⟨Nat.le_of_ble_eq_true rfl, Nat.le_of_ble_eq_true rfl⟩ rfl hl.1 (Nat.le_of_ble_eq_true rfl) dL_law_606 ⟨by show cells + 0 ≤ 600000; omega, by show slots + 0 ≤ 7302250; omega⟩) (fun r3 S2 H locs hV hM => ?_)
  refine lv_aload_n hx hb dL_law_609 rfl (lv_at hl 2 rfl) ?_
  refine lv_aload_n hx hb dL_law_610 rfl (lv_at hl 0 rfl) ?_
  refine lv_iload_n hx hb dL_law_611 rfl (lv_at hl 3 rfl) ?_
  refine lv_iconst (v := 1) hx hb dL_law_612 (by decide) ?_
  refine lv_iadd hx hb dL_law_613 ?_
  refine va_sld hx hb hX hbl hbA hV.2 (lw_in1 hi hL) dL_law_614 ?_
  rw [lw_at1 hi hL]
  refine lv_i2l hx hb dL_law_615 rfl ?_
  refine lv_bipush (v := 32) hx hb dL_law_616 (by decide) ?_
  refine lv_lshl hx hb dL_law_618 rfl ?_
  refine lv_aload_n hx hb dL_law_619 rfl (lv_at hl 0 rfl) ?_
  refine lv_iload_n hx hb dL_law_620 rfl (lv_at hl 3 rfl) ?_
  refine lv_iconst (v := 2) hx hb dL_law_621 (by decide) ?_
  refine lv_iadd hx hb dL_law_622 ?_
  refine va_sld hx hb hX hbl hbA hV.2 (lw_in2 hi hL) dL_law_623 ?_
  rw [lw_at2 hi hL]
  refine lv_i2l hx hb dL_law_624 rfl ?_
  refine lv_ldc2 hx hb hown (hts _ wc_L_58) dL_law_625 ?_
  refine lv_land hx hb dL_law_628 ?_
  refine lv_lor hx hb dL_law_629 ?_
  refine lv_aload_n hx hb dL_law_630 rfl (lv_at hl 0 rfl) ?_
  refine lv_iload_n hx hb dL_law_631 rfl (lv_at hl 3 rfl) ?_
  refine lv_iconst (v := 3) hx hb dL_law_632 (by decide) ?_
  refine lv_iadd hx hb dL_law_633 ?_
  refine va_sld hx hb hX hbl hbA hV.2 (lw_in3 hi hL) dL_law_634 ?_
  rw [lw_at3 hi hL]
  have hk4 := hM.1
  have hM := hM.2
  refine x_ci hV (x_runV (As := [.long (((xs (i + 1)).toInt64 <<< ((32 : Int32).toInt64 &&& 63)) ||| ((xs (i + 2)).toInt64 &&& (4294967295 : Int64))), .int (xs (i + 3))]) (rest := [.int r3]) C hV mi_X11_feed wl_L_64 hk4 (c_X11_feed hM) ⟨Nat.le_of_ble_eq_true rfl, Nat.le_of_ble_eq_true rfl⟩ rfl hl.1 (Nat.le_of_ble_eq_true rfl) dL_law_635 ⟨by show cells + 0 + 0 ≤ 600000; omega, by show slots + 0 + 0 ≤ 7302250; omega⟩) (fun r6 S5 H locs hV hM => ?_)
  refine lv_icmp_eq (tgt := 1645) hx hb dL_law_638 (by decide) (fun _ => ?_) (fun c => absurd hM.1 c)
  have hM := hM.2
  refine W.widen (k := cells + 2) (n := slots + 201) (by show cells + 0 + 0 ≤ _; omega) (by show slots + 0 + 0 ≤ _; omega) ?_
  exact next _ _ _ hM hV
set_option maxHeartbeats 4000000 in
set_option maxRecDepth 100000 in
theorem lz_11 {p : Program} {l : Launch} {e : Env} {s : State} {m : MethodId} {below : List Frame} {meth : Method} {c : Code} {D : DX} {cA : Nat → ClassId} {z0 N b L : Nat} {xs : Nat → Int32} {Q : State → Prop} {cells slots i x mm : Nat} {J : PS → Prop} {S : PS} {H : Heap} {locs : List Loc} {ls : Array Slot} (C : CX p s m #[.ref b] meth c code 4 RL (some .boolean) D cA z0) (hX : va_X b L xs s s.heap) (hbl : b < s.heap.size) (hbA : ¬ zA z0 b) (hi : i + 6 ≤ L) (hL : L ≤ 384) (hcc : cells + 4 ≤ 600000) (hcs : slots + 500 ≤ 7302250) (hV : XV D cA z0 s S H locs) (hl : lv_has ls 4 [(0, .ref b), (1, .ref x), (2, .ref mm), (3, .int (nI i))]) (hM : lc_11 N x mm J S (xs (i + 1)))
    (next : ∀ (S2 : PS) (H2 : Heap) (locs2 : List Loc), J S2 → XV D cA z0 s S2 H2 locs2 → W p l e room_1 s m #[.ref b] below meth c H2 locs2 (cells + 2) (slots + 201) Q (F0 m 1645 ls [])) : W p l e room_1 s m #[.ref b] below meth c H locs cells slots Q (F0 m 643 ls []) := by
  obtain ⟨hx, hb, hml, hown, hts, hK, hz, hlk, hr⟩ := id C
  unfold lc_11 at hM
  refine lv_aload_n hx hb dL_law_643 rfl (lv_at hl 1 rfl) ?_
  refine lv_aload_n hx hb dL_law_644 rfl (lv_at hl 0 rfl) ?_
  refine lv_iload_n hx hb dL_law_645 rfl (lv_at hl 3 rfl) ?_
  refine lv_iconst (v := 1) hx hb dL_law_646 (by decide) ?_
  refine lv_iadd hx hb dL_law_647 ?_
  refine va_sld hx hb hX hbl hbA hV.2 (lw_in1 hi hL) dL_law_648 ?_
  rw [lw_at1 hi hL]
  have hk1 := hM.1
  have hM := hM.2
  refine x_ci hV (x_runV (As := [.int (xs (i + 1))]) (rest := []) C hV mi_X10_story wl_L_65 hk1 (c_X10_story hM) ⟨Nat.le_of_ble_eq_true rfl, Nat.le_of_ble_eq_true rfl⟩ rfl hl.1 (Nat.le_of_ble_eq_true rfl) dL_law_649 ⟨by show cells + 2 ≤ 600000; omega, by show slots + 16 ≤ 7302250; omega⟩) (fun r3 S2 H locs hV hM => ?_)
  refine lv_aload_n hx hb dL_law_652 rfl (lv_at hl 2 rfl) ?_
  refine lv_aload_n hx hb dL_law_653 rfl (lv_at hl 0 rfl) ?_
  refine lv_iload_n hx hb dL_law_654 rfl (lv_at hl 3 rfl) ?_
  refine lv_iconst (v := 1) hx hb dL_law_655 (by decide) ?_
  refine lv_iadd hx hb dL_law_656 ?_
  refine va_sld hx hb hX hbl hbA hV.2 (lw_in1 hi hL) dL_law_657 ?_
  rw [lw_at1 hi hL]
  have hk4 := hM.1
  have hM := hM.2
  refine x_ci hV (x_runV (As := [.int (xs (i + 1))]) (rest := [.int r3]) C hV mi_X11_story wl_L_68 hk4 (c_X11_story hM) ⟨Nat.le_of_ble_eq_true rfl, Nat.le_of_ble_eq_true rfl⟩ rfl hl.1 (Nat.le_of_ble_eq_true rfl) dL_law_658 ⟨by show cells + 2 + 0 ≤ 600000; omega, by show slots + 16 + 0 ≤ 7302250; omega⟩) (fun r6 S5 H locs hV hM => ?_)
  refine lv_icmp_eq (tgt := 1645) hx hb dL_law_661 (by decide) (fun _ => ?_) (fun c => absurd hM.1 c)
  have hM := hM.2
  refine W.widen (k := cells + 2) (n := slots + 201) (by show cells + 2 + 0 ≤ _; omega) (by show slots + 16 + 0 ≤ _; omega) ?_
  exact next _ _ _ hM hV
set_option maxHeartbeats 4000000 in
set_option maxRecDepth 100000 in
theorem lz_12 {p : Program} {l : Launch} {e : Env} {s : State} {m : MethodId} {below : List Frame} {meth : Method} {c : Code} {D : DX} {cA : Nat → ClassId} {z0 N b L : Nat} {xs : Nat → Int32} {Q : State → Prop} {cells slots i x mm : Nat} {J : PS → Prop} {S : PS} {H : Heap} {locs : List Loc} {ls : Array Slot} (C : CX p s m #[.ref b] meth c code 4 RL (some .boolean) D cA z0) (hX : va_X b L xs s s.heap) (hbl : b < s.heap.size) (hbA : ¬ zA z0 b) (hi : i + 6 ≤ L) (hL : L ≤ 384) (hcc : cells + 4 ≤ 600000) (hcs : slots + 500 ≤ 7302250) (hV : XV D cA z0 s S H locs) (hl : lv_has ls 4 [(0, .ref b), (1, .ref x), (2, .ref mm), (3, .int (nI i))]) (hM : lc_12 N x mm J S (xs (i + 1)) (xs (i + 2)) (xs (i + 3)))
    (next : ∀ (S2 : PS) (H2 : Heap) (locs2 : List Loc), J S2 → XV D cA z0 s S2 H2 locs2 → W p l e room_1 s m #[.ref b] below meth c H2 locs2 (cells + 2) (slots + 201) Q (F0 m 1645 ls [])) : W p l e room_1 s m #[.ref b] below meth c H locs cells slots Q (F0 m 666 ls []) := by
  obtain ⟨hx, hb, hml, hown, hts, hK, hz, hlk, hr⟩ := id C
  unfold lc_12 at hM
  refine lv_aload_n hx hb dL_law_666 rfl (lv_at hl 1 rfl) ?_
  refine lv_aload_n hx hb dL_law_667 rfl (lv_at hl 0 rfl) ?_
  refine lv_iload_n hx hb dL_law_668 rfl (lv_at hl 3 rfl) ?_
  refine lv_iconst (v := 1) hx hb dL_law_669 (by decide) ?_
  refine lv_iadd hx hb dL_law_670 ?_
  refine va_sld hx hb hX hbl hbA hV.2 (lw_in1 hi hL) dL_law_671 ?_
  rw [lw_at1 hi hL]
  refine lv_aload_n hx hb dL_law_672 rfl (lv_at hl 0 rfl) ?_
  refine lv_iload_n hx hb dL_law_673 rfl (lv_at hl 3 rfl) ?_
  refine lv_iconst (v := 2) hx hb dL_law_674 (by decide) ?_
  refine lv_iadd hx hb dL_law_675 ?_
  refine va_sld hx hb hX hbl hbA hV.2 (lw_in2 hi hL) dL_law_676 ?_
  rw [lw_at2 hi hL]
  refine lv_aload_n hx hb dL_law_677 rfl (lv_at hl 0 rfl) ?_
  refine lv_iload_n hx hb dL_law_678 rfl (lv_at hl 3 rfl) ?_
  refine lv_iconst (v := 3) hx hb dL_law_679 (by decide) ?_
  refine lv_iadd hx hb dL_law_680 ?_
  refine va_sld hx hb hX hbl hbA hV.2 (lw_in3 hi hL) dL_law_681 ?_
  rw [lw_at3 hi hL]
  have hk1 := hM.1
  have hM := hM.2
  refine x_ci hV (x_runV (As := [.int (xs (i + 1)), .int (xs (i + 2)), .int (xs (i + 3))]) (rest := []) C hV mi_X10_gives wl_L_69 hk1 (c_X10_gives hM) ⟨Nat.le_of_ble_eq_true rfl, Nat.le_of_ble_eq_true rfl⟩ rfl hl.1 (Nat.le_of_ble_eq_true rfl) dL_law_682 ⟨by show cells + 0 ≤ 600000; omega, by show slots + 0 ≤ 7302250; omega⟩) (fun r3 S2 H locs hV hM => ?_)
  refine lv_aload_n hx hb dL_law_685 rfl (lv_at hl 2 rfl) ?_
  refine lv_aload_n hx hb dL_law_686 rfl (lv_at hl 0 rfl) ?_
  refine lv_iload_n hx hb dL_law_687 rfl (lv_at hl 3 rfl) ?_
  refine lv_iconst (v := 1) hx hb dL_law_688 (by decide) ?_
  refine lv_iadd hx hb dL_law_689 ?_
  refine va_sld hx hb hX hbl hbA hV.2 (lw_in1 hi hL) dL_law_690 ?_
  rw [lw_at1 hi hL]
  refine lv_aload_n hx hb dL_law_691 rfl (lv_at hl 0 rfl) ?_
  refine lv_iload_n hx hb dL_law_692 rfl (lv_at hl 3 rfl) ?_
  refine lv_iconst (v := 2) hx hb dL_law_693 (by decide) ?_
  refine lv_iadd hx hb dL_law_694 ?_
  refine va_sld hx hb hX hbl hbA hV.2 (lw_in2 hi hL) dL_law_695 ?_
  rw [lw_at2 hi hL]
  refine lv_aload_n hx hb dL_law_696 rfl (lv_at hl 0 rfl) ?_
  refine lv_iload_n hx hb dL_law_697 rfl (lv_at hl 3 rfl) ?_
  refine lv_iconst (v := 3) hx hb dL_law_698 (by decide) ?_
  refine lv_iadd hx hb dL_law_699 ?_
  refine va_sld hx hb hX hbl hbA hV.2 (lw_in3 hi hL) dL_law_700 ?_
  rw [lw_at3 hi hL]
  have hk4 := hM.1
  have hM := hM.2
  refine x_ci hV (x_runV (As := [.int (xs (i + 1)), .int (xs (i + 2)), .int (xs (i + 3))]) (rest := [.int r3]) C hV mi_X11_gives wl_L_72 hk4 (c_X11_gives hM) ⟨Nat.le_of_ble_eq_true rfl, Nat.le_of_ble_eq_true rfl⟩ rfl hl.1 (Nat.le_of_ble_eq_true rfl) dL_law_701 ⟨by show cells + 0 + 0 ≤ 600000; omega, by show slots + 0 + 0 ≤ 7302250; omega⟩) (fun r6 S5 H locs hV hM => ?_)
  refine lv_icmp_eq (tgt := 1645) hx hb dL_law_704 (by decide) (fun _ => ?_) (fun c => absurd hM.1 c)
  have hM := hM.2
  refine W.widen (k := cells + 2) (n := slots + 201) (by show cells + 0 + 0 ≤ _; omega) (by show slots + 0 + 0 ≤ _; omega) ?_
  exact next _ _ _ hM hV
set_option maxHeartbeats 4000000 in
set_option maxRecDepth 100000 in
theorem lz_13 {p : Program} {l : Launch} {e : Env} {s : State} {m : MethodId} {below : List Frame} {meth : Method} {c : Code} {D : DX} {cA : Nat → ClassId} {z0 N b L : Nat} {xs : Nat → Int32} {Q : State → Prop} {cells slots i x mm : Nat} {J : PS → Prop} {S : PS} {H : Heap} {locs : List Loc} {ls : Array Slot} (C : CX p s m #[.ref b] meth c code 4 RL (some .boolean) D cA z0) (hX : va_X b L xs s s.heap) (hbl : b < s.heap.size) (hbA : ¬ zA z0 b) (hi : i + 6 ≤ L) (hL : L ≤ 384) (hcc : cells + 4 ≤ 600000) (hcs : slots + 500 ≤ 7302250) (hV : XV D cA z0 s S H locs) (hl : lv_has ls 4 [(0, .ref b), (1, .ref x), (2, .ref mm), (3, .int (nI i))]) (hM : lc_13 N x mm J S (xs (i + 1)) (xs (i + 2)))
    (next : ∀ (S2 : PS) (H2 : Heap) (locs2 : List Loc), J S2 → XV D cA z0 s S2 H2 locs2 → W p l e room_1 s m #[.ref b] below meth c H2 locs2 (cells + 2) (slots + 201) Q (F0 m 1645 ls [])) : W p l e room_1 s m #[.ref b] below meth c H locs cells slots Q (F0 m 709 ls []) := by
  obtain ⟨hx, hb, hml, hown, hts, hK, hz, hlk, hr⟩ := id C
  unfold lc_13 at hM
  refine lv_aload_n hx hb dL_law_709 rfl (lv_at hl 1 rfl) ?_
  refine lv_aload_n hx hb dL_law_710 rfl (lv_at hl 0 rfl) ?_
  refine lv_iload_n hx hb dL_law_711 rfl (lv_at hl 3 rfl) ?_
  refine lv_iconst (v := 1) hx hb dL_law_712 (by decide) ?_
  refine lv_iadd hx hb dL_law_713 ?_
  refine va_sld hx hb hX hbl hbA hV.2 (lw_in1 hi hL) dL_law_714 ?_
  rw [lw_at1 hi hL]
  refine lv_aload_n hx hb dL_law_715 rfl (lv_at hl 0 rfl) ?_
  refine lv_iload_n hx hb dL_law_716 rfl (lv_at hl 3 rfl) ?_
  refine lv_iconst (v := 2) hx hb dL_law_717 (by decide) ?_
  refine lv_iadd hx hb dL_law_718 ?_
  refine va_sld hx hb hX hbl hbA hV.2 (lw_in2 hi hL) dL_law_719 ?_
  rw [lw_at2 hi hL]
  have hk1 := hM.1
  have hM := hM.2
  refine x_ci hV (x_runV (As := [.int (xs (i + 1)), .int (xs (i + 2))]) (rest := []) C hV mi_X10_finds wl_L_73 hk1 (c_X10_finds hM) ⟨Nat.le_of_ble_eq_true rfl, Nat.le_of_ble_eq_true rfl⟩ rfl hl.1 (Nat.le_of_ble_eq_true rfl) dL_law_720 ⟨by show cells + 0 ≤ 600000; omega, by show slots + 0 ≤ 7302250; omega⟩) (fun r3 S2 H locs hV hM => ?_)
  refine lv_aload_n hx hb dL_law_723 rfl (lv_at hl 2 rfl) ?_
  refine lv_aload_n hx hb dL_law_724 rfl (lv_at hl 0 rfl) ?_
  refine lv_iload_n hx hb dL_law_725 rfl (lv_at hl 3 rfl) ?_
  refine lv_iconst (v := 1) hx hb dL_law_726 (by decide) ?_
  refine lv_iadd hx hb dL_law_727 ?_
  refine va_sld hx hb hX hbl hbA hV.2 (lw_in1 hi hL) dL_law_728 ?_
  rw [lw_at1 hi hL]
  refine lv_aload_n hx hb dL_law_729 rfl (lv_at hl 0 rfl) ?_
  refine lv_iload_n hx hb dL_law_730 rfl (lv_at hl 3 rfl) ?_
  refine lv_iconst (v := 2) hx hb dL_law_731 (by decide) ?_
  refine lv_iadd hx hb dL_law_732 ?_
  refine va_sld hx hb hX hbl hbA hV.2 (lw_in2 hi hL) dL_law_733 ?_
  rw [lw_at2 hi hL]
  have hk4 := hM.1
  have hM := hM.2
  refine x_ci hV (x_runV (As := [.int (xs (i + 1)), .int (xs (i + 2))]) (rest := [.int r3]) C hV mi_X11_finds wl_L_76 hk4 (c_X11_finds hM) ⟨Nat.le_of_ble_eq_true rfl, Nat.le_of_ble_eq_true rfl⟩ rfl hl.1 (Nat.le_of_ble_eq_true rfl) dL_law_734 ⟨by show cells + 0 + 0 ≤ 600000; omega, by show slots + 0 + 0 ≤ 7302250; omega⟩) (fun r6 S5 H locs hV hM => ?_)
  refine lv_icmp_eq (tgt := 1645) hx hb dL_law_737 (by decide) (fun _ => ?_) (fun c => absurd hM.1 c)
  have hM := hM.2
  refine W.widen (k := cells + 2) (n := slots + 201) (by show cells + 0 + 0 ≤ _; omega) (by show slots + 0 + 0 ≤ _; omega) ?_
  exact next _ _ _ hM hV
set_option maxHeartbeats 4000000 in
set_option maxRecDepth 100000 in
theorem lz_14 {p : Program} {l : Launch} {e : Env} {s : State} {m : MethodId} {below : List Frame} {meth : Method} {c : Code} {D : DX} {cA : Nat → ClassId} {z0 N b L : Nat} {xs : Nat → Int32} {Q : State → Prop} {cells slots i x mm : Nat} {J : PS → Prop} {S : PS} {H : Heap} {locs : List Loc} {ls : Array Slot} (C : CX p s m #[.ref b] meth c code 4 RL (some .boolean) D cA z0) (hX : va_X b L xs s s.heap) (hbl : b < s.heap.size) (hbA : ¬ zA z0 b) (hi : i + 6 ≤ L) (hL : L ≤ 384) (hcc : cells + 4 ≤ 600000) (hcs : slots + 500 ≤ 7302250) (hV : XV D cA z0 s S H locs) (hl : lv_has ls 4 [(0, .ref b), (1, .ref x), (2, .ref mm), (3, .int (nI i))]) (hM : lc_14 N x mm J S (xs (i + 1)))
    (next : ∀ (S2 : PS) (H2 : Heap) (locs2 : List Loc), J S2 → XV D cA z0 s S2 H2 locs2 → W p l e room_1 s m #[.ref b] below meth c H2 locs2 (cells + 2) (slots + 201) Q (F0 m 1645 ls [])) : W p l e room_1 s m #[.ref b] below meth c H locs cells slots Q (F0 m 742 ls []) := by
  obtain ⟨hx, hb, hml, hown, hts, hK, hz, hlk, hr⟩ := id C
  unfold lc_14 at hM
  refine lv_aload_n hx hb dL_law_742 rfl (lv_at hl 1 rfl) ?_
  refine lv_aload_n hx hb dL_law_743 rfl (lv_at hl 0 rfl) ?_
  refine lv_iload_n hx hb dL_law_744 rfl (lv_at hl 3 rfl) ?_
  refine lv_iconst (v := 1) hx hb dL_law_745 (by decide) ?_
  refine lv_iadd hx hb dL_law_746 ?_
  refine va_sld hx hb hX hbl hbA hV.2 (lw_in1 hi hL) dL_law_747 ?_
  rw [lw_at1 hi hL]
  have hk1 := hM.1
  have hM := hM.2
  refine x_ci hV (x_runV (As := [.int (xs (i + 1))]) (rest := []) C hV mi_X10_miss wl_L_77 hk1 (c_X10_miss hM) ⟨Nat.le_of_ble_eq_true rfl, Nat.le_of_ble_eq_true rfl⟩ rfl hl.1 (Nat.le_of_ble_eq_true rfl) dL_law_748 ⟨by show cells + 0 ≤ 600000; omega, by show slots + 0 ≤ 7302250; omega⟩) (fun r3 S2 H locs hV hM => ?_)
  refine lv_aload_n hx hb dL_law_751 rfl (lv_at hl 2 rfl) ?_
  refine lv_aload_n hx hb dL_law_752 rfl (lv_at hl 0 rfl) ?_
  refine lv_iload_n hx hb dL_law_753 rfl (lv_at hl 3 rfl) ?_
  refine lv_iconst (v := 1) hx hb dL_law_754 (by decide) ?_
  refine lv_iadd hx hb dL_law_755 ?_
  refine va_sld hx hb hX hbl hbA hV.2 (lw_in1 hi hL) dL_law_756 ?_
  rw [lw_at1 hi hL]
  have hk4 := hM.1
  have hM := hM.2
  refine x_ci hV (x_runV (As := [.int (xs (i + 1))]) (rest := [.int r3]) C hV mi_X11_miss wl_L_80 hk4 (c_X11_miss hM) ⟨Nat.le_of_ble_eq_true rfl, Nat.le_of_ble_eq_true rfl⟩ rfl hl.1 (Nat.le_of_ble_eq_true rfl) dL_law_757 ⟨by show cells + 0 + 0 ≤ 600000; omega, by show slots + 0 + 0 ≤ 7302250; omega⟩) (fun r6 S5 H locs hV hM => ?_)
  refine lv_icmp_eq (tgt := 1645) hx hb dL_law_760 (by decide) (fun _ => ?_) (fun c => absurd hM.1 c)
  have hM := hM.2
  refine W.widen (k := cells + 2) (n := slots + 201) (by show cells + 0 + 0 ≤ _; omega) (by show slots + 0 + 0 ≤ _; omega) ?_
  exact next _ _ _ hM hV
set_option maxHeartbeats 4000000 in
set_option maxRecDepth 100000 in
theorem lz_15 {p : Program} {l : Launch} {e : Env} {s : State} {m : MethodId} {below : List Frame} {meth : Method} {c : Code} {D : DX} {cA : Nat → ClassId} {z0 N b L : Nat} {xs : Nat → Int32} {Q : State → Prop} {cells slots i x mm : Nat} {J : PS → Prop} {S : PS} {H : Heap} {locs : List Loc} {ls : Array Slot} (C : CX p s m #[.ref b] meth c code 4 RL (some .boolean) D cA z0) (hX : va_X b L xs s s.heap) (hbl : b < s.heap.size) (hbA : ¬ zA z0 b) (hi : i + 6 ≤ L) (hL : L ≤ 384) (hcc : cells + 4 ≤ 600000) (hcs : slots + 500 ≤ 7302250) (hV : XV D cA z0 s S H locs) (hl : lv_has ls 4 [(0, .ref b), (1, .ref x), (2, .ref mm), (3, .int (nI i))]) (hM : lc_15 N x mm J S)
    (next : ∀ (S2 : PS) (H2 : Heap) (locs2 : List Loc), J S2 → XV D cA z0 s S2 H2 locs2 → W p l e room_1 s m #[.ref b] below meth c H2 locs2 (cells + 2) (slots + 201) Q (F0 m 1645 ls [])) : W p l e room_1 s m #[.ref b] below meth c H locs cells slots Q (F0 m 765 ls []) := by
  obtain ⟨hx, hb, hml, hown, hts, hK, hz, hlk, hr⟩ := id C
  unfold lc_15 at hM
  refine lv_aload_n hx hb dL_law_765 rfl (lv_at hl 1 rfl) ?_
  have hk1 := hM.1
  have hM := hM.2
  refine x_ci hV (x_runV (As := []) (rest := []) C hV mi_X10_likely wl_L_81 hk1 (c_X10_likely hM) ⟨Nat.le_of_ble_eq_true rfl, Nat.le_of_ble_eq_true rfl⟩ rfl hl.1 (Nat.le_of_ble_eq_true rfl) dL_law_766 ⟨by show cells + 0 ≤ 600000; omega, by show slots + 0 ≤ 7302250; omega⟩) (fun r3 S2 H locs hV hM => ?_)
  refine lv_aload_n hx hb dL_law_769 rfl (lv_at hl 2 rfl) ?_
  have hk4 := hM.1
  have hM := hM.2
  refine x_ci hV (x_runV (As := []) (rest := [.int r3]) C hV mi_X11_likely wl_L_85 hk4 (c_X11_likely hM) ⟨Nat.le_of_ble_eq_true rfl, Nat.le_of_ble_eq_true rfl⟩ rfl hl.1 (Nat.le_of_ble_eq_true rfl) dL_law_770 ⟨by show cells + 0 + 0 ≤ 600000; omega, by show slots + 0 + 0 ≤ 7302250; omega⟩) (fun r6 S5 H locs hV hM => ?_)
  refine lv_icmp_eq (tgt := 1645) hx hb dL_law_773 (by decide) (fun _ => ?_) (fun c => absurd hM.1 c)
  have hM := hM.2
  refine W.widen (k := cells + 2) (n := slots + 201) (by show cells + 0 + 0 ≤ _; omega) (by show slots + 0 + 0 ≤ _; omega) ?_
  exact next _ _ _ hM hV
set_option maxHeartbeats 4000000 in
set_option maxRecDepth 100000 in
theorem lz_16 {p : Program} {l : Launch} {e : Env} {s : State} {m : MethodId} {below : List Frame} {meth : Method} {c : Code} {D : DX} {cA : Nat → ClassId} {z0 N b L : Nat} {xs : Nat → Int32} {Q : State → Prop} {cells slots i x mm : Nat} {J : PS → Prop} {S : PS} {H : Heap} {locs : List Loc} {ls : Array Slot} (C : CX p s m #[.ref b] meth c code 4 RL (some .boolean) D cA z0) (hX : va_X b L xs s s.heap) (hbl : b < s.heap.size) (hbA : ¬ zA z0 b) (hi : i + 6 ≤ L) (hL : L ≤ 384) (hcc : cells + 4 ≤ 600000) (hcs : slots + 500 ≤ 7302250) (hV : XV D cA z0 s S H locs) (hl : lv_has ls 4 [(0, .ref b), (1, .ref x), (2, .ref mm), (3, .int (nI i))]) (hM : lc_16 N x mm J S (xs (i + 1)) (xs (i + 2)))
    (next : ∀ (S2 : PS) (H2 : Heap) (locs2 : List Loc), J S2 → XV D cA z0 s S2 H2 locs2 → W p l e room_1 s m #[.ref b] below meth c H2 locs2 (cells + 2) (slots + 201) Q (F0 m 1645 ls [])) : W p l e room_1 s m #[.ref b] below meth c H locs cells slots Q (F0 m 778 ls []) := by
  obtain ⟨hx, hb, hml, hown, hts, hK, hz, hlk, hr⟩ := id C
  unfold lc_16 at hM
  refine lv_aload_n hx hb dL_law_778 rfl (lv_at hl 1 rfl) ?_
  refine lv_aload_n hx hb dL_law_779 rfl (lv_at hl 0 rfl) ?_
  refine lv_iload_n hx hb dL_law_780 rfl (lv_at hl 3 rfl) ?_
  refine lv_iconst (v := 1) hx hb dL_law_781 (by decide) ?_
  refine lv_iadd hx hb dL_law_782 ?_
  refine va_sld hx hb hX hbl hbA hV.2 (lw_in1 hi hL) dL_law_783 ?_
  rw [lw_at1 hi hL]
  refine lv_aload_n hx hb dL_law_784 rfl (lv_at hl 0 rfl) ?_
  refine lv_iload_n hx hb dL_law_785 rfl (lv_at hl 3 rfl) ?_
  refine lv_iconst (v := 2) hx hb dL_law_786 (by decide) ?_
  refine lv_iadd hx hb dL_law_787 ?_
  refine va_sld hx hb hX hbl hbA hV.2 (lw_in2 hi hL) dL_law_788 ?_
  rw [lw_at2 hi hL]
  have hk1 := hM.1
  have hM := hM.2
  refine x_cl hV (x_runV (As := [.int (xs (i + 1)), .int (xs (i + 2))]) (rest := []) C hV mi_X10_odds wl_L_86 hk1 (c_X10_odds hM) ⟨Nat.le_of_ble_eq_true rfl, Nat.le_of_ble_eq_true rfl⟩ rfl hl.1 (Nat.le_of_ble_eq_true rfl) dL_law_789 ⟨by show cells + 0 ≤ 600000; omega, by show slots + 0 ≤ 7302250; omega⟩) (fun r3 S2 H locs hV hM => ?_)
  refine lv_aload_n hx hb dL_law_792 rfl (lv_at hl 2 rfl) ?_
  refine lv_aload_n hx hb dL_law_793 rfl (lv_at hl 0 rfl) ?_
  refine lv_iload_n hx hb dL_law_794 rfl (lv_at hl 3 rfl) ?_
  refine lv_iconst (v := 1) hx hb dL_law_795 (by decide) ?_
  refine lv_iadd hx hb dL_law_796 ?_
  refine va_sld hx hb hX hbl hbA hV.2 (lw_in1 hi hL) dL_law_797 ?_
  rw [lw_at1 hi hL]
  refine lv_aload_n hx hb dL_law_798 rfl (lv_at hl 0 rfl) ?_
  refine lv_iload_n hx hb dL_law_799 rfl (lv_at hl 3 rfl) ?_
  refine lv_iconst (v := 2) hx hb dL_law_800 (by decide) ?_
  refine lv_iadd hx hb dL_law_801 ?_
  refine va_sld hx hb hX hbl hbA hV.2 (lw_in2 hi hL) dL_law_802 ?_
  rw [lw_at2 hi hL]
  have hk4 := hM.1
  have hM := hM.2
  refine x_cl hV (x_runV (As := [.int (xs (i + 1)), .int (xs (i + 2))]) (rest := [.long r3]) C hV mi_X11_odds wl_L_90 hk4 (c_X11_odds hM) ⟨Nat.le_of_ble_eq_true rfl, Nat.le_of_ble_eq_true rfl⟩ rfl hl.1 (Nat.le_of_ble_eq_true rfl) dL_law_803 ⟨by show cells + 0 + 0 ≤ 600000; omega, by show slots + 0 + 0 ≤ 7302250; omega⟩) (fun r6 S5 H locs hV hM => ?_)
  refine W.lcmp hx hb dL_law_806 ?_
  refine lv_if_eq (tgt := 1645) hx hb dL_law_807 (by decide) (fun _ => ?_) (fun c => absurd (by rw [hM.1]; exact lg_self _) c)
  have hM := hM.2
  refine W.widen (k := cells + 2) (n := slots + 201) (by show cells + 0 + 0 ≤ _; omega) (by show slots + 0 + 0 ≤ _; omega) ?_
  exact next _ _ _ hM hV
set_option maxHeartbeats 4000000 in
set_option maxRecDepth 100000 in
theorem lz_17 {p : Program} {l : Launch} {e : Env} {s : State} {m : MethodId} {below : List Frame} {meth : Method} {c : Code} {D : DX} {cA : Nat → ClassId} {z0 N b L : Nat} {xs : Nat → Int32} {Q : State → Prop} {cells slots i x mm : Nat} {J : PS → Prop} {S : PS} {H : Heap} {locs : List Loc} {ls : Array Slot} (C : CX p s m #[.ref b] meth c code 4 RL (some .boolean) D cA z0) (hX : va_X b L xs s s.heap) (hbl : b < s.heap.size) (hbA : ¬ zA z0 b) (hi : i + 6 ≤ L) (hL : L ≤ 384) (hcc : cells + 4 ≤ 600000) (hcs : slots + 500 ≤ 7302250) (hV : XV D cA z0 s S H locs) (hl : lv_has ls 4 [(0, .ref b), (1, .ref x), (2, .ref mm), (3, .int (nI i))]) (hM : lc_17 N x mm J S (xs (i + 1)) (xs (i + 2)) (xs (i + 3)))
    (next : ∀ (S2 : PS) (H2 : Heap) (locs2 : List Loc), J S2 → XV D cA z0 s S2 H2 locs2 → W p l e room_1 s m #[.ref b] below meth c H2 locs2 (cells + 2) (slots + 201) Q (F0 m 1645 ls [])) : W p l e room_1 s m #[.ref b] below meth c H locs cells slots Q (F0 m 812 ls []) := by
  obtain ⟨hx, hb, hml, hown, hts, hK, hz, hlk, hr⟩ := id C
  unfold lc_17 at hM
  refine lv_aload_n hx hb dL_law_812 rfl (lv_at hl 1 rfl) ?_
  refine lv_aload_n hx hb dL_law_813 rfl (lv_at hl 0 rfl) ?_
  refine lv_iload_n hx hb dL_law_814 rfl (lv_at hl 3 rfl) ?_
  refine lv_iconst (v := 1) hx hb dL_law_815 (by decide) ?_
  refine lv_iadd hx hb dL_law_816 ?_
  refine va_sld hx hb hX hbl hbA hV.2 (lw_in1 hi hL) dL_law_817 ?_
  rw [lw_at1 hi hL]
  refine lv_aload_n hx hb dL_law_818 rfl (lv_at hl 0 rfl) ?_
  refine lv_iload_n hx hb dL_law_819 rfl (lv_at hl 3 rfl) ?_
  refine lv_iconst (v := 2) hx hb dL_law_820 (by decide) ?_
  refine lv_iadd hx hb dL_law_821 ?_
  refine va_sld hx hb hX hbl hbA hV.2 (lw_in2 hi hL) dL_law_822 ?_
  rw [lw_at2 hi hL]
  refine lv_aload_n hx hb dL_law_823 rfl (lv_at hl 0 rfl) ?_
  refine lv_iload_n hx hb dL_law_824 rfl (lv_at hl 3 rfl) ?_
  refine lv_iconst (v := 3) hx hb dL_law_825 (by decide) ?_
  refine lv_iadd hx hb dL_law_826 ?_
  refine va_sld hx hb hX hbl hbA hV.2 (lw_in3 hi hL) dL_law_827 ?_
  rw [lw_at3 hi hL]
  have hk1 := hM.1
  have hM := hM.2
  refine x_ci hV (x_runV (As := [.int (xs (i + 1)), .int (xs (i + 2)), .int (xs (i + 3))]) (rest := []) C hV mi_X10_same wl_L_91 hk1 (c_X10_same hM) ⟨Nat.le_of_ble_eq_true rfl, Nat.le_of_ble_eq_true rfl⟩ rfl hl.1 (Nat.le_of_ble_eq_true rfl) dL_law_828 ⟨by show cells + 0 ≤ 600000; omega, by show slots + 0 ≤ 7302250; omega⟩) (fun r3 S2 H locs hV hM => ?_)
  refine lv_aload_n hx hb dL_law_831 rfl (lv_at hl 2 rfl) ?_
  refine lv_aload_n hx hb dL_law_832 rfl (lv_at hl 0 rfl) ?_
  refine lv_iload_n hx hb dL_law_833 rfl (lv_at hl 3 rfl) ?_
  refine lv_iconst (v := 1) hx hb dL_law_834 (by decide) ?_
  refine lv_iadd hx hb dL_law_835 ?_
  refine va_sld hx hb hX hbl hbA hV.2 (lw_in1 hi hL) dL_law_836 ?_
  rw [lw_at1 hi hL]
  refine lv_aload_n hx hb dL_law_837 rfl (lv_at hl 0 rfl) ?_
  refine lv_iload_n hx hb dL_law_838 rfl (lv_at hl 3 rfl) ?_
  refine lv_iconst (v := 2) hx hb dL_law_839 (by decide) ?_
  refine lv_iadd hx hb dL_law_840 ?_
  refine va_sld hx hb hX hbl hbA hV.2 (lw_in2 hi hL) dL_law_841 ?_
  rw [lw_at2 hi hL]
  refine lv_aload_n hx hb dL_law_842 rfl (lv_at hl 0 rfl) ?_
  refine lv_iload_n hx hb dL_law_843 rfl (lv_at hl 3 rfl) ?_
  refine lv_iconst (v := 3) hx hb dL_law_844 (by decide) ?_
  refine lv_iadd hx hb dL_law_845 ?_
  refine va_sld hx hb hX hbl hbA hV.2 (lw_in3 hi hL) dL_law_846 ?_
  rw [lw_at3 hi hL]
  have hk4 := hM.1
  have hM := hM.2
  refine x_ci hV (x_runV (As := [.int (xs (i + 1)), .int (xs (i + 2)), .int (xs (i + 3))]) (rest := [.int r3]) C hV mi_X11_same wl_L_94 hk4 (c_X11_same hM) ⟨Nat.le_of_ble_eq_true rfl, Nat.le_of_ble_eq_true rfl⟩ rfl hl.1 (Nat.le_of_ble_eq_true rfl) dL_law_847 ⟨by show cells + 0 + 0 ≤ 600000; omega, by show slots + 0 + 0 ≤ 7302250; omega⟩) (fun r6 S5 H locs hV hM => ?_)
  refine lv_icmp_eq (tgt := 1645) hx hb dL_law_850 (by decide) (fun _ => ?_) (fun c => absurd hM.1 c)
  have hM := hM.2
  refine W.widen (k := cells + 2) (n := slots + 201) (by show cells + 0 + 0 ≤ _; omega) (by show slots + 0 + 0 ≤ _; omega) ?_
  exact next _ _ _ hM hV
set_option maxHeartbeats 4000000 in
set_option maxRecDepth 100000 in
theorem lz_18 {p : Program} {l : Launch} {e : Env} {s : State} {m : MethodId} {below : List Frame} {meth : Method} {c : Code} {D : DX} {cA : Nat → ClassId} {z0 N b L : Nat} {xs : Nat → Int32} {Q : State → Prop} {cells slots i x mm : Nat} {J : PS → Prop} {S : PS} {H : Heap} {locs : List Loc} {ls : Array Slot} (C : CX p s m #[.ref b] meth c code 4 RL (some .boolean) D cA z0) (hX : va_X b L xs s s.heap) (hbl : b < s.heap.size) (hbA : ¬ zA z0 b) (hi : i + 6 ≤ L) (hL : L ≤ 384) (hcc : cells + 4 ≤ 600000) (hcs : slots + 500 ≤ 7302250) (hV : XV D cA z0 s S H locs) (hl : lv_has ls 4 [(0, .ref b), (1, .ref x), (2, .ref mm), (3, .int (nI i))]) (hM : lc_18 N x mm J S (xs (i + 1)) (xs (i + 2)))
    (next : ∀ (S2 : PS) (H2 : Heap) (locs2 : List Loc), J S2 → XV D cA z0 s S2 H2 locs2 → W p l e room_1 s m #[.ref b] below meth c H2 locs2 (cells + 2) (slots + 201) Q (F0 m 1645 ls [])) : W p l e room_1 s m #[.ref b] below meth c H locs cells slots Q (F0 m 855 ls []) := by
  obtain ⟨hx, hb, hml, hown, hts, hK, hz, hlk, hr⟩ := id C
  unfold lc_18 at hM
  refine lv_aload_n hx hb dL_law_855 rfl (lv_at hl 1 rfl) ?_
  refine lv_aload_n hx hb dL_law_856 rfl (lv_at hl 0 rfl) ?_
  refine lv_iload_n hx hb dL_law_857 rfl (lv_at hl 3 rfl) ?_
  refine lv_iconst (v := 1) hx hb dL_law_858 (by decide) ?_
  refine lv_iadd hx hb dL_law_859 ?_
  refine va_sld hx hb hX hbl hbA hV.2 (lw_in1 hi hL) dL_law_860 ?_
  rw [lw_at1 hi hL]
  refine lv_aload_n hx hb dL_law_861 rfl (lv_at hl 0 rfl) ?_
  refine lv_iload_n hx hb dL_law_862 rfl (lv_at hl 3 rfl) ?_
  refine lv_iconst (v := 2) hx hb dL_law_863 (by decide) ?_
  refine lv_iadd hx hb dL_law_864 ?_
  refine va_sld hx hb hX hbl hbA hV.2 (lw_in2 hi hL) dL_law_865 ?_
  rw [lw_at2 hi hL]
  have hk1 := hM.1
  have hM := hM.2
  refine x_ci hV (x_runV (As := [.int (xs (i + 1)), .int (xs (i + 2))]) (rest := []) C hV mi_X10_next wl_L_95 hk1 (c_X10_next hM) ⟨Nat.le_of_ble_eq_true rfl, Nat.le_of_ble_eq_true rfl⟩ rfl hl.1 (Nat.le_of_ble_eq_true rfl) dL_law_866 ⟨by show cells + 0 ≤ 600000; omega, by show slots + 0 ≤ 7302250; omega⟩) (fun r3 S2 H locs hV hM => ?_)
  refine lv_aload_n hx hb dL_law_869 rfl (lv_at hl 2 rfl) ?_
  refine lv_aload_n hx hb dL_law_870 rfl (lv_at hl 0 rfl) ?_
  refine lv_iload_n hx hb dL_law_871 rfl (lv_at hl 3 rfl) ?_
  refine lv_iconst (v := 1) hx hb dL_law_872 (by decide) ?_
  refine lv_iadd hx hb dL_law_873 ?_
  refine va_sld hx hb hX hbl hbA hV.2 (lw_in1 hi hL) dL_law_874 ?_
  rw [lw_at1 hi hL]
  refine lv_aload_n hx hb dL_law_875 rfl (lv_at hl 0 rfl) ?_
  refine lv_iload_n hx hb dL_law_876 rfl (lv_at hl 3 rfl) ?_
  refine lv_iconst (v := 2) hx hb dL_law_877 (by decide) ?_
  refine lv_iadd hx hb dL_law_878 ?_
  refine va_sld hx hb hX hbl hbA hV.2 (lw_in2 hi hL) dL_law_879 ?_
  rw [lw_at2 hi hL]
  have hk4 := hM.1
  have hM := hM.2
  refine x_ci hV (x_runV (As := [.int (xs (i + 1)), .int (xs (i + 2))]) (rest := [.int r3]) C hV mi_X11_next wl_L_98 hk4 (c_X11_next hM) ⟨Nat.le_of_ble_eq_true rfl, Nat.le_of_ble_eq_true rfl⟩ rfl hl.1 (Nat.le_of_ble_eq_true rfl) dL_law_880 ⟨by show cells + 0 + 0 ≤ 600000; omega, by show slots + 0 + 0 ≤ 7302250; omega⟩) (fun r6 S5 H locs hV hM => ?_)
  refine lv_icmp_eq (tgt := 1645) hx hb dL_law_883 (by decide) (fun _ => ?_) (fun c => absurd hM.1 c)
  have hM := hM.2
  refine W.widen (k := cells + 2) (n := slots + 201) (by show cells + 0 + 0 ≤ _; omega) (by show slots + 0 + 0 ≤ _; omega) ?_
  exact next _ _ _ hM hV
set_option maxHeartbeats 4000000 in
set_option maxRecDepth 100000 in
theorem lz_19 {p : Program} {l : Launch} {e : Env} {s : State} {m : MethodId} {below : List Frame} {meth : Method} {c : Code} {D : DX} {cA : Nat → ClassId} {z0 N b L : Nat} {xs : Nat → Int32} {Q : State → Prop} {cells slots i x mm : Nat} {J : PS → Prop} {S : PS} {H : Heap} {locs : List Loc} {ls : Array Slot} (C : CX p s m #[.ref b] meth c code 4 RL (some .boolean) D cA z0) (hX : va_X b L xs s s.heap) (hbl : b < s.heap.size) (hbA : ¬ zA z0 b) (hi : i + 6 ≤ L) (hL : L ≤ 384) (hcc : cells + 4 ≤ 600000) (hcs : slots + 500 ≤ 7302250) (hV : XV D cA z0 s S H locs) (hl : lv_has ls 4 [(0, .ref b), (1, .ref x), (2, .ref mm), (3, .int (nI i))]) (hM : lc_19 N x mm J S (xs (i + 1)) (xs (i + 2)))
    (next : ∀ (S2 : PS) (H2 : Heap) (locs2 : List Loc), J S2 → XV D cA z0 s S2 H2 locs2 → W p l e room_1 s m #[.ref b] below meth c H2 locs2 (cells + 2) (slots + 201) Q (F0 m 1645 ls [])) : W p l e room_1 s m #[.ref b] below meth c H locs cells slots Q (F0 m 888 ls []) := by
  obtain ⟨hx, hb, hml, hown, hts, hK, hz, hlk, hr⟩ := id C
  unfold lc_19 at hM
  refine lv_aload_n hx hb dL_law_888 rfl (lv_at hl 1 rfl) ?_
  refine lv_aload_n hx hb dL_law_889 rfl (lv_at hl 0 rfl) ?_
  refine lv_iload_n hx hb dL_law_890 rfl (lv_at hl 3 rfl) ?_
  refine lv_iconst (v := 1) hx hb dL_law_891 (by decide) ?_
  refine lv_iadd hx hb dL_law_892 ?_
  refine va_sld hx hb hX hbl hbA hV.2 (lw_in1 hi hL) dL_law_893 ?_
  rw [lw_at1 hi hL]
  refine lv_aload_n hx hb dL_law_894 rfl (lv_at hl 0 rfl) ?_
  refine lv_iload_n hx hb dL_law_895 rfl (lv_at hl 3 rfl) ?_
  refine lv_iconst (v := 2) hx hb dL_law_896 (by decide) ?_
  refine lv_iadd hx hb dL_law_897 ?_
  refine va_sld hx hb hX hbl hbA hV.2 (lw_in2 hi hL) dL_law_898 ?_
  rw [lw_at2 hi hL]
  have hk1 := hM.1
  have hM := hM.2
  refine x_ci hV (x_runV (As := [.int (xs (i + 1)), .int (xs (i + 2))]) (rest := []) C hV mi_X10_least wl_L_99 hk1 (c_X10_least hM) ⟨Nat.le_of_ble_eq_true rfl, Nat.le_of_ble_eq_true rfl⟩ rfl hl.1 (Nat.le_of_ble_eq_true rfl) dL_law_899 ⟨by show cells + 0 ≤ 600000; omega, by show slots + 0 ≤ 7302250; omega⟩) (fun r3 S2 H locs hV hM => ?_)
  refine lv_aload_n hx hb dL_law_902 rfl (lv_at hl 2 rfl) ?_
  refine lv_aload_n hx hb dL_law_903 rfl (lv_at hl 0 rfl) ?_
  refine lv_iload_n hx hb dL_law_904 rfl (lv_at hl 3 rfl) ?_
  refine lv_iconst (v := 1) hx hb dL_law_905 (by decide) ?_
  refine lv_iadd hx hb dL_law_906 ?_
  refine va_sld hx hb hX hbl hbA hV.2 (lw_in1 hi hL) dL_law_907 ?_
  rw [lw_at1 hi hL]
  refine lv_aload_n hx hb dL_law_908 rfl (lv_at hl 0 rfl) ?_
  refine lv_iload_n hx hb dL_law_909 rfl (lv_at hl 3 rfl) ?_
  refine lv_iconst (v := 2) hx hb dL_law_910 (by decide) ?_
  refine lv_iadd hx hb dL_law_911 ?_
  refine va_sld hx hb hX hbl hbA hV.2 (lw_in2 hi hL) dL_law_912 ?_
  rw [lw_at2 hi hL]
  have hk4 := hM.1
  have hM := hM.2
  refine x_ci hV (x_runV (As := [.int (xs (i + 1)), .int (xs (i + 2))]) (rest := [.int r3]) C hV mi_X11_least wl_L_102 hk4 (c_X11_least hM) ⟨Nat.le_of_ble_eq_true rfl, Nat.le_of_ble_eq_true rfl⟩ rfl hl.1 (Nat.le_of_ble_eq_true rfl) dL_law_913 ⟨by show cells + 0 + 0 ≤ 600000; omega, by show slots + 0 + 0 ≤ 7302250; omega⟩) (fun r6 S5 H locs hV hM => ?_)
  refine lv_icmp_eq (tgt := 1645) hx hb dL_law_916 (by decide) (fun _ => ?_) (fun c => absurd hM.1 c)
  have hM := hM.2
  refine W.widen (k := cells + 2) (n := slots + 201) (by show cells + 0 + 0 ≤ _; omega) (by show slots + 0 + 0 ≤ _; omega) ?_
  exact next _ _ _ hM hV
set_option maxHeartbeats 4000000 in
set_option maxRecDepth 100000 in
theorem lz_20 {p : Program} {l : Launch} {e : Env} {s : State} {m : MethodId} {below : List Frame} {meth : Method} {c : Code} {D : DX} {cA : Nat → ClassId} {z0 N b L : Nat} {xs : Nat → Int32} {Q : State → Prop} {cells slots i x mm : Nat} {J : PS → Prop} {S : PS} {H : Heap} {locs : List Loc} {ls : Array Slot} (C : CX p s m #[.ref b] meth c code 4 RL (some .boolean) D cA z0) (hX : va_X b L xs s s.heap) (hbl : b < s.heap.size) (hbA : ¬ zA z0 b) (hi : i + 6 ≤ L) (hL : L ≤ 384) (hcc : cells + 4 ≤ 600000) (hcs : slots + 500 ≤ 7302250) (hV : XV D cA z0 s S H locs) (hl : lv_has ls 4 [(0, .ref b), (1, .ref x), (2, .ref mm), (3, .int (nI i))]) (hM : lc_20 N x mm J S (xs (i + 1)) (xs (i + 2)))
    (next : ∀ (S2 : PS) (H2 : Heap) (locs2 : List Loc), J S2 → XV D cA z0 s S2 H2 locs2 → W p l e room_1 s m #[.ref b] below meth c H2 locs2 (cells + 2) (slots + 201) Q (F0 m 1645 ls [])) : W p l e room_1 s m #[.ref b] below meth c H locs cells slots Q (F0 m 921 ls []) := by
  obtain ⟨hx, hb, hml, hown, hts, hK, hz, hlk, hr⟩ := id C
  unfold lc_20 at hM
  refine lv_aload_n hx hb dL_law_921 rfl (lv_at hl 1 rfl) ?_
  refine lv_aload_n hx hb dL_law_922 rfl (lv_at hl 0 rfl) ?_
  refine lv_iload_n hx hb dL_law_923 rfl (lv_at hl 3 rfl) ?_
  refine lv_iconst (v := 1) hx hb dL_law_924 (by decide) ?_
  refine lv_iadd hx hb dL_law_925 ?_
  refine va_sld hx hb hX hbl hbA hV.2 (lw_in1 hi hL) dL_law_926 ?_
  rw [lw_at1 hi hL]
  refine lv_aload_n hx hb dL_law_927 rfl (lv_at hl 0 rfl) ?_
  refine lv_iload_n hx hb dL_law_928 rfl (lv_at hl 3 rfl) ?_
  refine lv_iconst (v := 2) hx hb dL_law_929 (by decide) ?_
  refine lv_iadd hx hb dL_law_930 ?_
  refine va_sld hx hb hX hbl hbA hV.2 (lw_in2 hi hL) dL_law_931 ?_
  rw [lw_at2 hi hL]
  have hk1 := hM.1
  have hM := hM.2
  refine x_ci hV (x_runV (As := [.int (xs (i + 1)), .int (xs (i + 2))]) (rest := []) C hV mi_X10_span wl_L_103 hk1 (c_X10_span hM) ⟨Nat.le_of_ble_eq_true rfl, Nat.le_of_ble_eq_true rfl⟩ rfl hl.1 (Nat.le_of_ble_eq_true rfl) dL_law_932 ⟨by show cells + 0 ≤ 600000; omega, by show slots + 0 ≤ 7302250; omega⟩) (fun r3 S2 H locs hV hM => ?_)
  refine lv_aload_n hx hb dL_law_935 rfl (lv_at hl 2 rfl) ?_
  refine lv_aload_n hx hb dL_law_936 rfl (lv_at hl 0 rfl) ?_
  refine lv_iload_n hx hb dL_law_937 rfl (lv_at hl 3 rfl) ?_
  refine lv_iconst (v := 1) hx hb dL_law_938 (by decide) ?_
  refine lv_iadd hx hb dL_law_939 ?_
  refine va_sld hx hb hX hbl hbA hV.2 (lw_in1 hi hL) dL_law_940 ?_
  rw [lw_at1 hi hL]
  refine lv_aload_n hx hb dL_law_941 rfl (lv_at hl 0 rfl) ?_
  refine lv_iload_n hx hb dL_law_942 rfl (lv_at hl 3 rfl) ?_
  refine lv_iconst (v := 2) hx hb dL_law_943 (by decide) ?_
  refine lv_iadd hx hb dL_law_944 ?_
  refine va_sld hx hb hX hbl hbA hV.2 (lw_in2 hi hL) dL_law_945 ?_
  rw [lw_at2 hi hL]
  have hk4 := hM.1
  have hM := hM.2
  refine x_ci hV (x_runV (As := [.int (xs (i + 1)), .int (xs (i + 2))]) (rest := [.int r3]) C hV mi_X11_span wl_L_106 hk4 (c_X11_span hM) ⟨Nat.le_of_ble_eq_true rfl, Nat.le_of_ble_eq_true rfl⟩ rfl hl.1 (Nat.le_of_ble_eq_true rfl) dL_law_946 ⟨by show cells + 0 + 0 ≤ 600000; omega, by show slots + 0 + 0 ≤ 7302250; omega⟩) (fun r6 S5 H locs hV hM => ?_)
  refine lv_icmp_eq (tgt := 1645) hx hb dL_law_949 (by decide) (fun _ => ?_) (fun c => absurd hM.1 c)
  have hM := hM.2
  refine W.widen (k := cells + 2) (n := slots + 201) (by show cells + 0 + 0 ≤ _; omega) (by show slots + 0 + 0 ≤ _; omega) ?_
  exact next _ _ _ hM hV
set_option maxHeartbeats 4000000 in
set_option maxRecDepth 100000 in
theorem lz_21 {p : Program} {l : Launch} {e : Env} {s : State} {m : MethodId} {below : List Frame} {meth : Method} {c : Code} {D : DX} {cA : Nat → ClassId} {z0 N b L : Nat} {xs : Nat → Int32} {Q : State → Prop} {cells slots i x mm : Nat} {J : PS → Prop} {S : PS} {H : Heap} {locs : List Loc} {ls : Array Slot} (C : CX p s m #[.ref b] meth c code 4 RL (some .boolean) D cA z0) (hX : va_X b L xs s s.heap) (hbl : b < s.heap.size) (hbA : ¬ zA z0 b) (hi : i + 6 ≤ L) (hL : L ≤ 384) (hcc : cells + 4 ≤ 600000) (hcs : slots + 500 ≤ 7302250) (hV : XV D cA z0 s S H locs) (hl : lv_has ls 4 [(0, .ref b), (1, .ref x), (2, .ref mm), (3, .int (nI i))]) (hM : lc_21 N x mm J S (xs (i + 1)))
    (next : ∀ (S2 : PS) (H2 : Heap) (locs2 : List Loc), J S2 → XV D cA z0 s S2 H2 locs2 → W p l e room_1 s m #[.ref b] below meth c H2 locs2 (cells + 2) (slots + 201) Q (F0 m 1645 ls [])) : W p l e room_1 s m #[.ref b] below meth c H locs cells slots Q (F0 m 954 ls []) := by
  obtain ⟨hx, hb, hml, hown, hts, hK, hz, hlk, hr⟩ := id C
  unfold lc_21 at hM
  refine lv_aload_n hx hb dL_law_954 rfl (lv_at hl 1 rfl) ?_
  refine lv_aload_n hx hb dL_law_955 rfl (lv_at hl 0 rfl) ?_
  refine lv_iload_n hx hb dL_law_956 rfl (lv_at hl 3 rfl) ?_
  refine lv_iconst (v := 1) hx hb dL_law_957 (by decide) ?_
  refine lv_iadd hx hb dL_law_958 ?_
  refine va_sld hx hb hX hbl hbA hV.2 (lw_in1 hi hL) dL_law_959 ?_
  rw [lw_at1 hi hL]
  have hk1 := hM.1
  have hM := hM.2
  refine x_ci hV (x_runV (As := [.int (xs (i + 1))]) (rest := []) C hV mi_X10_sure wl_L_107 hk1 (c_X10_sure hM) ⟨Nat.le_of_ble_eq_true rfl, Nat.le_of_ble_eq_true rfl⟩ rfl hl.1 (Nat.le_of_ble_eq_true rfl) dL_law_960 ⟨by show cells + 0 ≤ 600000; omega, by show slots + 0 ≤ 7302250; omega⟩) (fun r3 S2 H locs hV hM => ?_)
  refine lv_aload_n hx hb dL_law_963 rfl (lv_at hl 2 rfl) ?_
  refine lv_aload_n hx hb dL_law_964 rfl (lv_at hl 0 rfl) ?_
  refine lv_iload_n hx hb dL_law_965 rfl (lv_at hl 3 rfl) ?_
  refine lv_iconst (v := 1) hx hb dL_law_966 (by decide) ?_
  refine lv_iadd hx hb dL_law_967 ?_
  refine va_sld hx hb hX hbl hbA hV.2 (lw_in1 hi hL) dL_law_968 ?_
  rw [lw_at1 hi hL]
  have hk4 := hM.1
  have hM := hM.2
  refine x_ci hV (x_runV (As := [.int (xs (i + 1))]) (rest := [.int r3]) C hV mi_X11_sure wl_L_110 hk4 (c_X11_sure hM) ⟨Nat.le_of_ble_eq_true rfl, Nat.le_of_ble_eq_true rfl⟩ rfl hl.1 (Nat.le_of_ble_eq_true rfl) dL_law_969 ⟨by show cells + 0 + 0 ≤ 600000; omega, by show slots + 0 + 0 ≤ 7302250; omega⟩) (fun r6 S5 H locs hV hM => ?_)
  refine lv_icmp_eq (tgt := 1645) hx hb dL_law_972 (by decide) (fun _ => ?_) (fun c => absurd hM.1 c)
  have hM := hM.2
  refine W.widen (k := cells + 2) (n := slots + 201) (by show cells + 0 + 0 ≤ _; omega) (by show slots + 0 + 0 ≤ _; omega) ?_
  exact next _ _ _ hM hV
set_option maxHeartbeats 4000000 in
set_option maxRecDepth 100000 in
theorem lz_22 {p : Program} {l : Launch} {e : Env} {s : State} {m : MethodId} {below : List Frame} {meth : Method} {c : Code} {D : DX} {cA : Nat → ClassId} {z0 N b L : Nat} {xs : Nat → Int32} {Q : State → Prop} {cells slots i x mm : Nat} {J : PS → Prop} {S : PS} {H : Heap} {locs : List Loc} {ls : Array Slot} (C : CX p s m #[.ref b] meth c code 4 RL (some .boolean) D cA z0) (hX : va_X b L xs s s.heap) (hbl : b < s.heap.size) (hbA : ¬ zA z0 b) (hi : i + 6 ≤ L) (hL : L ≤ 384) (hcc : cells + 4 ≤ 600000) (hcs : slots + 500 ≤ 7302250) (hV : XV D cA z0 s S H locs) (hl : lv_has ls 4 [(0, .ref b), (1, .ref x), (2, .ref mm), (3, .int (nI i))]) (hM : lc_22 N x mm J S (xs (i + 1)) (xs (i + 2)))
    (next : ∀ (S2 : PS) (H2 : Heap) (locs2 : List Loc), J S2 → XV D cA z0 s S2 H2 locs2 → W p l e room_1 s m #[.ref b] below meth c H2 locs2 (cells + 2) (slots + 201) Q (F0 m 1645 ls [])) : W p l e room_1 s m #[.ref b] below meth c H locs cells slots Q (F0 m 977 ls []) := by
  obtain ⟨hx, hb, hml, hown, hts, hK, hz, hlk, hr⟩ := id C
  unfold lc_22 at hM
  refine lv_aload_n hx hb dL_law_977 rfl (lv_at hl 1 rfl) ?_
  refine lv_aload_n hx hb dL_law_978 rfl (lv_at hl 0 rfl) ?_
  refine lv_iload_n hx hb dL_law_979 rfl (lv_at hl 3 rfl) ?_
  refine lv_iconst (v := 1) hx hb dL_law_980 (by decide) ?_
  refine lv_iadd hx hb dL_law_981 ?_
  refine va_sld hx hb hX hbl hbA hV.2 (lw_in1 hi hL) dL_law_982 ?_
  rw [lw_at1 hi hL]
  refine lv_aload_n hx hb dL_law_983 rfl (lv_at hl 0 rfl) ?_
  refine lv_iload_n hx hb dL_law_984 rfl (lv_at hl 3 rfl) ?_
  refine lv_iconst (v := 2) hx hb dL_law_985 (by decide) ?_
  refine lv_iadd hx hb dL_law_986 ?_
  refine va_sld hx hb hX hbl hbA hV.2 (lw_in2 hi hL) dL_law_987 ?_
  rw [lw_at2 hi hL]
  have hk1 := hM.1
  have hM := hM.2
  refine x_ci hV (x_runV (As := [.int (xs (i + 1)), .int (xs (i + 2))]) (rest := []) C hV mi_X10_could wl_L_111 hk1 (c_X10_could hM) ⟨Nat.le_of_ble_eq_true rfl, Nat.le_of_ble_eq_true rfl⟩ rfl hl.1 (Nat.le_of_ble_eq_true rfl) dL_law_988 ⟨by show cells + 0 ≤ 600000; omega, by show slots + 0 ≤ 7302250; omega⟩) (fun r3 S2 H locs hV hM => ?_)
  refine lv_aload_n hx hb dL_law_991 rfl (lv_at hl 2 rfl) ?_
  refine lv_aload_n hx hb dL_law_992 rfl (lv_at hl 0 rfl) ?_
  refine lv_iload_n hx hb dL_law_993 rfl (lv_at hl 3 rfl) ?_
  refine lv_iconst (v := 1) hx hb dL_law_994 (by decide) ?_
  refine lv_iadd hx hb dL_law_995 ?_
  refine va_sld hx hb hX hbl hbA hV.2 (lw_in1 hi hL) dL_law_996 ?_
  rw [lw_at1 hi hL]
  refine lv_aload_n hx hb dL_law_997 rfl (lv_at hl 0 rfl) ?_
  refine lv_iload_n hx hb dL_law_998 rfl (lv_at hl 3 rfl) ?_
  refine lv_iconst (v := 2) hx hb dL_law_999 (by decide) ?_
  refine lv_iadd hx hb dL_law_1000 ?_
  refine va_sld hx hb hX hbl hbA hV.2 (lw_in2 hi hL) dL_law_1001 ?_
  rw [lw_at2 hi hL]
  have hk4 := hM.1
  have hM := hM.2
  refine x_ci hV (x_runV (As := [.int (xs (i + 1)), .int (xs (i + 2))]) (rest := [.int r3]) C hV mi_X11_could wl_L_114 hk4 (c_X11_could hM) ⟨Nat.le_of_ble_eq_true rfl, Nat.le_of_ble_eq_true rfl⟩ rfl hl.1 (Nat.le_of_ble_eq_true rfl) dL_law_1002 ⟨by show cells + 0 + 0 ≤ 600000; omega, by show slots + 0 + 0 ≤ 7302250; omega⟩) (fun r6 S5 H locs hV hM => ?_)
  refine lv_icmp_eq (tgt := 1645) hx hb dL_law_1005 (by decide) (fun _ => ?_) (fun c => absurd hM.1 c)
  have hM := hM.2
  refine W.widen (k := cells + 2) (n := slots + 201) (by show cells + 0 + 0 ≤ _; omega) (by show slots + 0 + 0 ≤ _; omega) ?_
  exact next _ _ _ hM hV
set_option maxHeartbeats 4000000 in
set_option maxRecDepth 100000 in
theorem lz_23 {p : Program} {l : Launch} {e : Env} {s : State} {m : MethodId} {below : List Frame} {meth : Method} {c : Code} {D : DX} {cA : Nat → ClassId} {z0 N b L : Nat} {xs : Nat → Int32} {Q : State → Prop} {cells slots i x mm : Nat} {J : PS → Prop} {S : PS} {H : Heap} {locs : List Loc} {ls : Array Slot} (C : CX p s m #[.ref b] meth c code 4 RL (some .boolean) D cA z0) (hX : va_X b L xs s s.heap) (hbl : b < s.heap.size) (hbA : ¬ zA z0 b) (hi : i + 6 ≤ L) (hL : L ≤ 384) (hcc : cells + 4 ≤ 600000) (hcs : slots + 500 ≤ 7302250) (hV : XV D cA z0 s S H locs) (hl : lv_has ls 4 [(0, .ref b), (1, .ref x), (2, .ref mm), (3, .int (nI i))]) (hM : lc_23 N x mm J S (xs (i + 1)) (xs (i + 2)))
    (next : ∀ (S2 : PS) (H2 : Heap) (locs2 : List Loc), J S2 → XV D cA z0 s S2 H2 locs2 → W p l e room_1 s m #[.ref b] below meth c H2 locs2 (cells + 2) (slots + 201) Q (F0 m 1645 ls [])) : W p l e room_1 s m #[.ref b] below meth c H locs cells slots Q (F0 m 1010 ls []) := by
  obtain ⟨hx, hb, hml, hown, hts, hK, hz, hlk, hr⟩ := id C
  unfold lc_23 at hM
  refine lv_aload_n hx hb dL_law_1010 rfl (lv_at hl 1 rfl) ?_
  refine lv_aload_n hx hb dL_law_1011 rfl (lv_at hl 0 rfl) ?_
  refine lv_iload_n hx hb dL_law_1012 rfl (lv_at hl 3 rfl) ?_
  refine lv_iconst (v := 1) hx hb dL_law_1013 (by decide) ?_
  refine lv_iadd hx hb dL_law_1014 ?_
  refine va_sld hx hb hX hbl hbA hV.2 (lw_in1 hi hL) dL_law_1015 ?_
  rw [lw_at1 hi hL]
  refine lv_aload_n hx hb dL_law_1016 rfl (lv_at hl 0 rfl) ?_
  refine lv_iload_n hx hb dL_law_1017 rfl (lv_at hl 3 rfl) ?_
  refine lv_iconst (v := 2) hx hb dL_law_1018 (by decide) ?_
  refine lv_iadd hx hb dL_law_1019 ?_
  refine va_sld hx hb hX hbl hbA hV.2 (lw_in2 hi hL) dL_law_1020 ?_
  rw [lw_at2 hi hL]
  have hk1 := hM.1
  have hM := hM.2
  refine x_ci hV (x_runV (As := [.int (xs (i + 1)), .int (xs (i + 2))]) (rest := []) C hV mi_X10_fits wl_L_115 hk1 (c_X10_fits hM) ⟨Nat.le_of_ble_eq_true rfl, Nat.le_of_ble_eq_true rfl⟩ rfl hl.1 (Nat.le_of_ble_eq_true rfl) dL_law_1021 ⟨by show cells + 0 ≤ 600000; omega, by show slots + 0 ≤ 7302250; omega⟩) (fun r3 S2 H locs hV hM => ?_)
  refine lv_aload_n hx hb dL_law_1024 rfl (lv_at hl 2 rfl) ?_
  refine lv_aload_n hx hb dL_law_1025 rfl (lv_at hl 0 rfl) ?_
  refine lv_iload_n hx hb dL_law_1026 rfl (lv_at hl 3 rfl) ?_
  refine lv_iconst (v := 1) hx hb dL_law_1027 (by decide) ?_
  refine lv_iadd hx hb dL_law_1028 ?_
  refine va_sld hx hb hX hbl hbA hV.2 (lw_in1 hi hL) dL_law_1029 ?_
  rw [lw_at1 hi hL]
  refine lv_aload_n hx hb dL_law_1030 rfl (lv_at hl 0 rfl) ?_
  refine lv_iload_n hx hb dL_law_1031 rfl (lv_at hl 3 rfl) ?_
  refine lv_iconst (v := 2) hx hb dL_law_1032 (by decide) ?_
  refine lv_iadd hx hb dL_law_1033 ?_
  refine va_sld hx hb hX hbl hbA hV.2 (lw_in2 hi hL) dL_law_1034 ?_
  rw [lw_at2 hi hL]
  have hk4 := hM.1
  have hM := hM.2
  refine x_ci hV (x_runV (As := [.int (xs (i + 1)), .int (xs (i + 2))]) (rest := [.int r3]) C hV mi_X11_fits wl_L_118 hk4 (c_X11_fits hM) ⟨Nat.le_of_ble_eq_true rfl, Nat.le_of_ble_eq_true rfl⟩ rfl hl.1 (Nat.le_of_ble_eq_true rfl) dL_law_1035 ⟨by show cells + 0 + 0 ≤ 600000; omega, by show slots + 0 + 0 ≤ 7302250; omega⟩) (fun r6 S5 H locs hV hM => ?_)
  refine lv_icmp_eq (tgt := 1645) hx hb dL_law_1038 (by decide) (fun _ => ?_) (fun c => absurd hM.1 c)
  have hM := hM.2
  refine W.widen (k := cells + 2) (n := slots + 201) (by show cells + 0 + 0 ≤ _; omega) (by show slots + 0 + 0 ≤ _; omega) ?_
  exact next _ _ _ hM hV
set_option maxHeartbeats 4000000 in
set_option maxRecDepth 100000 in
theorem lz_24 {p : Program} {l : Launch} {e : Env} {s : State} {m : MethodId} {below : List Frame} {meth : Method} {c : Code} {D : DX} {cA : Nat → ClassId} {z0 N b L : Nat} {xs : Nat → Int32} {Q : State → Prop} {cells slots i x mm : Nat} {J : PS → Prop} {S : PS} {H : Heap} {locs : List Loc} {ls : Array Slot} (C : CX p s m #[.ref b] meth c code 4 RL (some .boolean) D cA z0) (hX : va_X b L xs s s.heap) (hbl : b < s.heap.size) (hbA : ¬ zA z0 b) (hi : i + 6 ≤ L) (hL : L ≤ 384) (hcc : cells + 4 ≤ 600000) (hcs : slots + 500 ≤ 7302250) (hV : XV D cA z0 s S H locs) (hl : lv_has ls 4 [(0, .ref b), (1, .ref x), (2, .ref mm), (3, .int (nI i))]) (hM : lc_24 N x mm J S (xs (i + 1)) (xs (i + 2)))
    (next : ∀ (S2 : PS) (H2 : Heap) (locs2 : List Loc), J S2 → XV D cA z0 s S2 H2 locs2 → W p l e room_1 s m #[.ref b] below meth c H2 locs2 (cells + 2) (slots + 201) Q (F0 m 1645 ls [])) : W p l e room_1 s m #[.ref b] below meth c H locs cells slots Q (F0 m 1043 ls []) := by
  obtain ⟨hx, hb, hml, hown, hts, hK, hz, hlk, hr⟩ := id C
  unfold lc_24 at hM
  refine lv_aload_n hx hb dL_law_1043 rfl (lv_at hl 1 rfl) ?_
  refine lv_aload_n hx hb dL_law_1044 rfl (lv_at hl 0 rfl) ?_
  refine lv_iload_n hx hb dL_law_1045 rfl (lv_at hl 3 rfl) ?_
  refine lv_iconst (v := 1) hx hb dL_law_1046 (by decide) ?_
  refine lv_iadd hx hb dL_law_1047 ?_
  refine va_sld hx hb hX hbl hbA hV.2 (lw_in1 hi hL) dL_law_1048 ?_
  rw [lw_at1 hi hL]
  refine lv_aload_n hx hb dL_law_1049 rfl (lv_at hl 0 rfl) ?_
  refine lv_iload_n hx hb dL_law_1050 rfl (lv_at hl 3 rfl) ?_
  refine lv_iconst (v := 2) hx hb dL_law_1051 (by decide) ?_
  refine lv_iadd hx hb dL_law_1052 ?_
  refine va_sld hx hb hX hbl hbA hV.2 (lw_in2 hi hL) dL_law_1053 ?_
  rw [lw_at2 hi hL]
  have hk1 := hM.1
  have hM := hM.2
  refine x_cl hV (x_runV (As := [.int (xs (i + 1)), .int (xs (i + 2))]) (rest := []) C hV mi_X10_jump wl_L_119 hk1 (c_X10_jump hM) ⟨Nat.le_of_ble_eq_true rfl, Nat.le_of_ble_eq_true rfl⟩ rfl hl.1 (Nat.le_of_ble_eq_true rfl) dL_law_1054 ⟨by show cells + 0 ≤ 600000; omega, by show slots + 0 ≤ 7302250; omega⟩) (fun r3 S2 H locs hV hM => ?_)
  refine lv_aload_n hx hb dL_law_1057 rfl (lv_at hl 2 rfl) ?_
  refine lv_aload_n hx hb dL_law_1058 rfl (lv_at hl 0 rfl) ?_
  refine lv_iload_n hx hb dL_law_1059 rfl (lv_at hl 3 rfl) ?_
  refine lv_iconst (v := 1) hx hb dL_law_1060 (by decide) ?_
  refine lv_iadd hx hb dL_law_1061 ?_
  refine va_sld hx hb hX hbl hbA hV.2 (lw_in1 hi hL) dL_law_1062 ?_
  rw [lw_at1 hi hL]
  refine lv_aload_n hx hb dL_law_1063 rfl (lv_at hl 0 rfl) ?_
  refine lv_iload_n hx hb dL_law_1064 rfl (lv_at hl 3 rfl) ?_
  refine lv_iconst (v := 2) hx hb dL_law_1065 (by decide) ?_
  refine lv_iadd hx hb dL_law_1066 ?_
  refine va_sld hx hb hX hbl hbA hV.2 (lw_in2 hi hL) dL_law_1067 ?_
  rw [lw_at2 hi hL]
  have hk4 := hM.1
  have hM := hM.2
  refine x_cl hV (x_runV (As := [.int (xs (i + 1)), .int (xs (i + 2))]) (rest := [.long r3]) C hV mi_X11_jump wl_L_122 hk4 (c_X11_jump hM) ⟨Nat.le_of_ble_eq_true rfl, Nat.le_of_ble_eq_true rfl⟩ rfl hl.1 (Nat.le_of_ble_eq_true rfl) dL_law_1068 ⟨by show cells + 0 + 0 ≤ 600000; omega, by show slots + 0 + 0 ≤ 7302250; omega⟩) (fun r6 S5 H locs hV hM => ?_)
  refine W.lcmp hx hb dL_law_1071 ?_
  refine lv_if_eq (tgt := 1645) hx hb dL_law_1072 (by decide) (fun _ => ?_) (fun c => absurd (by rw [hM.1]; exact lg_self _) c)
  have hM := hM.2
  refine W.widen (k := cells + 2) (n := slots + 201) (by show cells + 0 + 0 ≤ _; omega) (by show slots + 0 + 0 ≤ _; omega) ?_
  exact next _ _ _ hM hV
set_option maxHeartbeats 4000000 in
set_option maxRecDepth 100000 in
theorem lz_25 {p : Program} {l : Launch} {e : Env} {s : State} {m : MethodId} {below : List Frame} {meth : Method} {c : Code} {D : DX} {cA : Nat → ClassId} {z0 N b L : Nat} {xs : Nat → Int32} {Q : State → Prop} {cells slots i x mm : Nat} {J : PS → Prop} {S : PS} {H : Heap} {locs : List Loc} {ls : Array Slot} (C : CX p s m #[.ref b] meth c code 4 RL (some .boolean) D cA z0) (hX : va_X b L xs s s.heap) (hbl : b < s.heap.size) (hbA : ¬ zA z0 b) (hi : i + 6 ≤ L) (hL : L ≤ 384) (hcc : cells + 4 ≤ 600000) (hcs : slots + 500 ≤ 7302250) (hV : XV D cA z0 s S H locs) (hl : lv_has ls 4 [(0, .ref b), (1, .ref x), (2, .ref mm), (3, .int (nI i))]) (hM : lc_25 N x mm J S (xs (i + 1)) (xs (i + 2)) (xs (i + 3)))
    (next : ∀ (S2 : PS) (H2 : Heap) (locs2 : List Loc), J S2 → XV D cA z0 s S2 H2 locs2 → W p l e room_1 s m #[.ref b] below meth c H2 locs2 (cells + 2) (slots + 201) Q (F0 m 1645 ls [])) : W p l e room_1 s m #[.ref b] below meth c H locs cells slots Q (F0 m 1077 ls []) := by
  obtain ⟨hx, hb, hml, hown, hts, hK, hz, hlk, hr⟩ := id C
  unfold lc_25 at hM
  refine lv_aload_n hx hb dL_law_1077 rfl (lv_at hl 1 rfl) ?_
  refine lv_aload_n hx hb dL_law_1078 rfl (lv_at hl 0 rfl) ?_
  refine lv_iload_n hx hb dL_law_1079 rfl (lv_at hl 3 rfl) ?_
  refine lv_iconst (v := 1) hx hb dL_law_1080 (by decide) ?_
  refine lv_iadd hx hb dL_law_1081 ?_
  refine va_sld hx hb hX hbl hbA hV.2 (lw_in1 hi hL) dL_law_1082 ?_
  rw [lw_at1 hi hL]
  refine lv_aload_n hx hb dL_law_1083 rfl (lv_at hl 0 rfl) ?_
  refine lv_iload_n hx hb dL_law_1084 rfl (lv_at hl 3 rfl) ?_
  refine lv_iconst (v := 2) hx hb dL_law_1085 (by decide) ?_
  refine lv_iadd hx hb dL_law_1086 ?_
  refine va_sld hx hb hX hbl hbA hV.2 (lw_in2 hi hL) dL_law_1087 ?_
  rw [lw_at2 hi hL]
  refine lv_aload_n hx hb dL_law_1088 rfl (lv_at hl 0 rfl) ?_
  refine lv_iload_n hx hb dL_law_1089 rfl (lv_at hl 3 rfl) ?_
  refine lv_iconst (v := 3) hx hb dL_law_1090 (by decide) ?_
  refine lv_iadd hx hb dL_law_1091 ?_
  refine va_sld hx hb hX hbl hbA hV.2 (lw_in3 hi hL) dL_law_1092 ?_
  rw [lw_at3 hi hL]
  have hk1 := hM.1
  have hM := hM.2
  refine x_cl hV (x_runV (As := [.int (xs (i + 1)), .int (xs (i + 2)), .int (xs (i + 3))]) (rest := []) C hV mi_X10_month wl_L_123 hk1 (c_X10_month hM) ⟨Nat.le_of_ble_eq_true rfl, Nat.le_of_ble_eq_true rfl⟩ rfl hl.1 (Nat.le_of_ble_eq_true rfl) dL_law_1093 ⟨by show cells + 0 ≤ 600000; omega, by show slots + 0 ≤ 7302250; omega⟩) (fun r3 S2 H locs hV hM => ?_)
  refine lv_aload_n hx hb dL_law_1096 rfl (lv_at hl 2 rfl) ?_
  refine lv_aload_n hx hb dL_law_1097 rfl (lv_at hl 0 rfl) ?_
  refine lv_iload_n hx hb dL_law_1098 rfl (lv_at hl 3 rfl) ?_
  refine lv_iconst (v := 1) hx hb dL_law_1099 (by decide) ?_
  refine lv_iadd hx hb dL_law_1100 ?_
  refine va_sld hx hb hX hbl hbA hV.2 (lw_in1 hi hL) dL_law_1101 ?_
  rw [lw_at1 hi hL]
  refine lv_aload_n hx hb dL_law_1102 rfl (lv_at hl 0 rfl) ?_
  refine lv_iload_n hx hb dL_law_1103 rfl (lv_at hl 3 rfl) ?_
  refine lv_iconst (v := 2) hx hb dL_law_1104 (by decide) ?_
  refine lv_iadd hx hb dL_law_1105 ?_
  refine va_sld hx hb hX hbl hbA hV.2 (lw_in2 hi hL) dL_law_1106 ?_
  rw [lw_at2 hi hL]
  refine lv_aload_n hx hb dL_law_1107 rfl (lv_at hl 0 rfl) ?_
  refine lv_iload_n hx hb dL_law_1108 rfl (lv_at hl 3 rfl) ?_
  refine lv_iconst (v := 3) hx hb dL_law_1109 (by decide) ?_
  refine lv_iadd hx hb dL_law_1110 ?_
  refine va_sld hx hb hX hbl hbA hV.2 (lw_in3 hi hL) dL_law_1111 ?_
  rw [lw_at3 hi hL]
  have hk4 := hM.1
  have hM := hM.2
  refine x_cl hV (x_runV (As := [.int (xs (i + 1)), .int (xs (i + 2)), .int (xs (i + 3))]) (rest := [.long r3]) C hV mi_X11_month wl_L_127 hk4 (c_X11_month hM) ⟨Nat.le_of_ble_eq_true rfl, Nat.le_of_ble_eq_true rfl⟩ rfl hl.1 (Nat.le_of_ble_eq_true rfl) dL_law_1112 ⟨by show cells + 0 + 0 ≤ 600000; omega, by show slots + 0 + 0 ≤ 7302250; omega⟩) (fun r6 S5 H locs hV hM => ?_)
  refine W.lcmp hx hb dL_law_1115 ?_
  refine lv_if_eq (tgt := 1645) hx hb dL_law_1116 (by decide) (fun _ => ?_) (fun c => absurd (by rw [hM.1]; exact lg_self _) c)
  have hM := hM.2
  refine W.widen (k := cells + 2) (n := slots + 201) (by show cells + 0 + 0 ≤ _; omega) (by show slots + 0 + 0 ≤ _; omega) ?_
  exact next _ _ _ hM hV
set_option maxHeartbeats 4000000 in
set_option maxRecDepth 100000 in
theorem lz_26 {p : Program} {l : Launch} {e : Env} {s : State} {m : MethodId} {below : List Frame} {meth : Method} {c : Code} {D : DX} {cA : Nat → ClassId} {z0 N b L : Nat} {xs : Nat → Int32} {Q : State → Prop} {cells slots i x mm : Nat} {J : PS → Prop} {S : PS} {H : Heap} {locs : List Loc} {ls : Array Slot} (C : CX p s m #[.ref b] meth c code 4 RL (some .boolean) D cA z0) (hX : va_X b L xs s s.heap) (hbl : b < s.heap.size) (hbA : ¬ zA z0 b) (hi : i + 6 ≤ L) (hL : L ≤ 384) (hcc : cells + 4 ≤ 600000) (hcs : slots + 500 ≤ 7302250) (hV : XV D cA z0 s S H locs) (hl : lv_has ls 4 [(0, .ref b), (1, .ref x), (2, .ref mm), (3, .int (nI i))]) (hM : lc_26 N x mm J S)
    (next : ∀ (S2 : PS) (H2 : Heap) (locs2 : List Loc), J S2 → XV D cA z0 s S2 H2 locs2 → W p l e room_1 s m #[.ref b] below meth c H2 locs2 (cells + 2) (slots + 201) Q (F0 m 1645 ls [])) : W p l e room_1 s m #[.ref b] below meth c H locs cells slots Q (F0 m 1121 ls []) := by
  obtain ⟨hx, hb, hml, hown, hts, hK, hz, hlk, hr⟩ := id C
  unfold lc_26 at hM
  refine lv_aload_n hx hb dL_law_1121 rfl (lv_at hl 1 rfl) ?_
  have hk1 := hM.1
  have hM := hM.2
  refine x_ci hV (x_runV (As := []) (rest := []) C hV mi_X10_house wl_L_128 hk1 (c_X10_house hM) ⟨Nat.le_of_ble_eq_true rfl, Nat.le_of_ble_eq_true rfl⟩ rfl hl.1 (Nat.le_of_ble_eq_true rfl) dL_law_1122 ⟨by show cells + 2 ≤ 600000; omega, by show slots + 201 ≤ 7302250; omega⟩) (fun r3 S2 H locs hV hM => ?_)
  refine lv_aload_n hx hb dL_law_1125 rfl (lv_at hl 2 rfl) ?_
  have hk4 := hM.1
  have hM := hM.2
  refine x_ci hV (x_runV (As := []) (rest := [.int r3]) C hV mi_X11_house wl_L_131 hk4 (c_X11_house hM) ⟨Nat.le_of_ble_eq_true rfl, Nat.le_of_ble_eq_true rfl⟩ rfl hl.1 (Nat.le_of_ble_eq_true rfl) dL_law_1126 ⟨by show cells + 2 + 0 ≤ 600000; omega, by show slots + 201 + 0 ≤ 7302250; omega⟩) (fun r6 S5 H locs hV hM => ?_)
  refine lv_icmp_eq (tgt := 1645) hx hb dL_law_1129 (by decide) (fun _ => ?_) (fun c => absurd hM.1 c)
  have hM := hM.2
  refine W.widen (k := cells + 2) (n := slots + 201) (by show cells + 2 + 0 ≤ _; omega) (by show slots + 201 + 0 ≤ _; omega) ?_
  exact next _ _ _ hM hV
set_option maxHeartbeats 4000000 in
set_option maxRecDepth 100000 in
theorem lz_27 {p : Program} {l : Launch} {e : Env} {s : State} {m : MethodId} {below : List Frame} {meth : Method} {c : Code} {D : DX} {cA : Nat → ClassId} {z0 N b L : Nat} {xs : Nat → Int32} {Q : State → Prop} {cells slots i x mm : Nat} {J : PS → Prop} {S : PS} {H : Heap} {locs : List Loc} {ls : Array Slot} (C : CX p s m #[.ref b] meth c code 4 RL (some .boolean) D cA z0) (hX : va_X b L xs s s.heap) (hbl : b < s.heap.size) (hbA : ¬ zA z0 b) (hi : i + 6 ≤ L) (hL : L ≤ 384) (hcc : cells + 4 ≤ 600000) (hcs : slots + 500 ≤ 7302250) (hV : XV D cA z0 s S H locs) (hl : lv_has ls 4 [(0, .ref b), (1, .ref x), (2, .ref mm), (3, .int (nI i))]) (hM : lc_27 N x mm J S (xs (i + 1)))
    (next : ∀ (S2 : PS) (H2 : Heap) (locs2 : List Loc), J S2 → XV D cA z0 s S2 H2 locs2 → W p l e room_1 s m #[.ref b] below meth c H2 locs2 (cells + 2) (slots + 201) Q (F0 m 1645 ls [])) : W p l e room_1 s m #[.ref b] below meth c H locs cells slots Q (F0 m 1134 ls []) := by
  obtain ⟨hx, hb, hml, hown, hts, hK, hz, hlk, hr⟩ := id C
  unfold lc_27 at hM
  refine lv_aload_n hx hb dL_law_1134 rfl (lv_at hl 1 rfl) ?_
  refine lv_aload_n hx hb dL_law_1135 rfl (lv_at hl 0 rfl) ?_
  refine lv_iload_n hx hb dL_law_1136 rfl (lv_at hl 3 rfl) ?_
  refine lv_iconst (v := 1) hx hb dL_law_1137 (by decide) ?_
  refine lv_iadd hx hb dL_law_1138 ?_
  refine va_sld hx hb hX hbl hbA hV.2 (lw_in1 hi hL) dL_law_1139 ?_
  rw [lw_at1 hi hL]
  have hk1 := hM.1
  have hM := hM.2
  refine x_ci hV (x_runV (As := [.int (xs (i + 1))]) (rest := []) C hV mi_X10_fact wl_L_132 hk1 (c_X10_fact hM) ⟨Nat.le_of_ble_eq_true rfl, Nat.le_of_ble_eq_true rfl⟩ rfl hl.1 (Nat.le_of_ble_eq_true rfl) dL_law_1140 ⟨by show cells + 0 ≤ 600000; omega, by show slots + 0 ≤ 7302250; omega⟩) (fun r3 S2 H locs hV hM => ?_)
  refine lv_aload_n hx hb dL_law_1143 rfl (lv_at hl 2 rfl) ?_
  refine lv_aload_n hx hb dL_law_1144 rfl (lv_at hl 0 rfl) ?_
  refine lv_iload_n hx hb dL_law_1145 rfl (lv_at hl 3 rfl) ?_
  refine lv_iconst (v := 1) hx hb dL_law_1146 (by decide) ?_
  refine lv_iadd hx hb dL_law_1147 ?_
  refine va_sld hx hb hX hbl hbA hV.2 (lw_in1 hi hL) dL_law_1148 ?_
  rw [lw_at1 hi hL]
  have hk4 := hM.1
  have hM := hM.2
  refine x_ci hV (x_runV (As := [.int (xs (i + 1))]) (rest := [.int r3]) C hV mi_X11_fact wl_L_135 hk4 (c_X11_fact hM) ⟨Nat.le_of_ble_eq_true rfl, Nat.le_of_ble_eq_true rfl⟩ rfl hl.1 (Nat.le_of_ble_eq_true rfl) dL_law_1149 ⟨by show cells + 0 + 0 ≤ 600000; omega, by show slots + 0 + 0 ≤ 7302250; omega⟩) (fun r6 S5 H locs hV hM => ?_)
  refine lv_icmp_eq (tgt := 1645) hx hb dL_law_1152 (by decide) (fun _ => ?_) (fun c => absurd hM.1 c)
  have hM := hM.2
  refine W.widen (k := cells + 2) (n := slots + 201) (by show cells + 0 + 0 ≤ _; omega) (by show slots + 0 + 0 ≤ _; omega) ?_
  exact next _ _ _ hM hV
set_option maxHeartbeats 4000000 in
set_option maxRecDepth 100000 in
theorem lz_28 {p : Program} {l : Launch} {e : Env} {s : State} {m : MethodId} {below : List Frame} {meth : Method} {c : Code} {D : DX} {cA : Nat → ClassId} {z0 N b L : Nat} {xs : Nat → Int32} {Q : State → Prop} {cells slots i x mm : Nat} {J : PS → Prop} {S : PS} {H : Heap} {locs : List Loc} {ls : Array Slot} (C : CX p s m #[.ref b] meth c code 4 RL (some .boolean) D cA z0) (hX : va_X b L xs s s.heap) (hbl : b < s.heap.size) (hbA : ¬ zA z0 b) (hi : i + 6 ≤ L) (hL : L ≤ 384) (hcc : cells + 4 ≤ 600000) (hcs : slots + 500 ≤ 7302250) (hV : XV D cA z0 s S H locs) (hl : lv_has ls 4 [(0, .ref b), (1, .ref x), (2, .ref mm), (3, .int (nI i))]) (hM : lc_28 N x mm J S (xs (i + 1)) (xs (i + 2)))
    (next : ∀ (S2 : PS) (H2 : Heap) (locs2 : List Loc), J S2 → XV D cA z0 s S2 H2 locs2 → W p l e room_1 s m #[.ref b] below meth c H2 locs2 (cells + 2) (slots + 201) Q (F0 m 1645 ls [])) : W p l e room_1 s m #[.ref b] below meth c H locs cells slots Q (F0 m 1157 ls []) := by
  obtain ⟨hx, hb, hml, hown, hts, hK, hz, hlk, hr⟩ := id C
  unfold lc_28 at hM
  refine lv_aload_n hx hb dL_law_1157 rfl (lv_at hl 1 rfl) ?_
  refine lv_aload_n hx hb dL_law_1158 rfl (lv_at hl 0 rfl) ?_
  refine lv_iload_n hx hb dL_law_1159 rfl (lv_at hl 3 rfl) ?_
  refine lv_iconst (v := 1) hx hb dL_law_1160 (by decide) ?_
  refine lv_iadd hx hb dL_law_1161 ?_
  refine va_sld hx hb hX hbl hbA hV.2 (lw_in1 hi hL) dL_law_1162 ?_
  rw [lw_at1 hi hL]
  refine lv_aload_n hx hb dL_law_1163 rfl (lv_at hl 0 rfl) ?_
  refine lv_iload_n hx hb dL_law_1164 rfl (lv_at hl 3 rfl) ?_
  refine lv_iconst (v := 2) hx hb dL_law_1165 (by decide) ?_
  refine lv_iadd hx hb dL_law_1166 ?_
  refine va_sld hx hb hX hbl hbA hV.2 (lw_in2 hi hL) dL_law_1167 ?_
  rw [lw_at2 hi hL]
  have hk1 := hM.1
  have hM := hM.2
  refine x_ci hV (x_runV (As := [.int (xs (i + 1)), .int (xs (i + 2))]) (rest := []) C hV mi_X10_holds wl_L_136 hk1 (c_X10_holds hM) ⟨Nat.le_of_ble_eq_true rfl, Nat.le_of_ble_eq_true rfl⟩ rfl hl.1 (Nat.le_of_ble_eq_true rfl) dL_law_1168 ⟨by show cells + 0 ≤ 600000; omega, by show slots + 0 ≤ 7302250; omega⟩) (fun r3 S2 H locs hV hM => ?_)
  refine lv_aload_n hx hb dL_law_1171 rfl (lv_at hl 2 rfl) ?_
  refine lv_aload_n hx hb dL_law_1172 rfl (lv_at hl 0 rfl) ?_
  refine lv_iload_n hx hb dL_law_1173 rfl (lv_at hl 3 rfl) ?_
  refine lv_iconst (v := 1) hx hb dL_law_1174 (by decide) ?_
  refine lv_iadd hx hb dL_law_1175 ?_
  refine va_sld hx hb hX hbl hbA hV.2 (lw_in1 hi hL) dL_law_1176 ?_
  rw [lw_at1 hi hL]
  refine lv_aload_n hx hb dL_law_1177 rfl (lv_at hl 0 rfl) ?_
  refine lv_iload_n hx hb dL_law_1178 rfl (lv_at hl 3 rfl) ?_
  refine lv_iconst (v := 2) hx hb dL_law_1179 (by decide) ?_
  refine lv_iadd hx hb dL_law_1180 ?_
  refine va_sld hx hb hX hbl hbA hV.2 (lw_in2 hi hL) dL_law_1181 ?_
  rw [lw_at2 hi hL]
  have hk4 := hM.1
  have hM := hM.2
  refine x_ci hV (x_runV (As := [.int (xs (i + 1)), .int (xs (i + 2))]) (rest := [.int r3]) C hV mi_X11_holds wl_L_139 hk4 (c_X11_holds hM) ⟨Nat.le_of_ble_eq_true rfl, Nat.le_of_ble_eq_true rfl⟩ rfl hl.1 (Nat.le_of_ble_eq_true rfl) dL_law_1182 ⟨by show cells + 0 + 0 ≤ 600000; omega, by show slots + 0 + 0 ≤ 7302250; omega⟩) (fun r6 S5 H locs hV hM => ?_)
  refine lv_icmp_eq (tgt := 1645) hx hb dL_law_1185 (by decide) (fun _ => ?_) (fun c => absurd hM.1 c)
  have hM := hM.2
  refine W.widen (k := cells + 2) (n := slots + 201) (by show cells + 0 + 0 ≤ _; omega) (by show slots + 0 + 0 ≤ _; omega) ?_
  exact next _ _ _ hM hV
set_option maxHeartbeats 4000000 in
set_option maxRecDepth 100000 in
theorem lz_29 {p : Program} {l : Launch} {e : Env} {s : State} {m : MethodId} {below : List Frame} {meth : Method} {c : Code} {D : DX} {cA : Nat → ClassId} {z0 N b L : Nat} {xs : Nat → Int32} {Q : State → Prop} {cells slots i x mm : Nat} {J : PS → Prop} {S : PS} {H : Heap} {locs : List Loc} {ls : Array Slot} (C : CX p s m #[.ref b] meth c code 4 RL (some .boolean) D cA z0) (hX : va_X b L xs s s.heap) (hbl : b < s.heap.size) (hbA : ¬ zA z0 b) (hi : i + 6 ≤ L) (hL : L ≤ 384) (hcc : cells + 4 ≤ 600000) (hcs : slots + 500 ≤ 7302250) (hV : XV D cA z0 s S H locs) (hl : lv_has ls 4 [(0, .ref b), (1, .ref x), (2, .ref mm), (3, .int (nI i))]) (hM : lc_29 N x mm J S)
    (next : ∀ (S2 : PS) (H2 : Heap) (locs2 : List Loc), J S2 → XV D cA z0 s S2 H2 locs2 → W p l e room_1 s m #[.ref b] below meth c H2 locs2 (cells + 2) (slots + 201) Q (F0 m 1645 ls [])) : W p l e room_1 s m #[.ref b] below meth c H locs cells slots Q (F0 m 1190 ls []) := by
  obtain ⟨hx, hb, hml, hown, hts, hK, hz, hlk, hr⟩ := id C
  unfold lc_29 at hM
  refine lv_aload_n hx hb dL_law_1190 rfl (lv_at hl 1 rfl) ?_
  have hk1 := hM.1
  have hM := hM.2
  refine x_ci hV (x_runV (As := []) (rest := []) C hV mi_X10_sign wl_L_140 hk1 (c_X10_sign hM) ⟨Nat.le_of_ble_eq_true rfl, Nat.le_of_ble_eq_true rfl⟩ rfl hl.1 (Nat.le_of_ble_eq_true rfl) dL_law_1191 ⟨by show cells + 0 ≤ 600000; omega, by show slots + 0 ≤ 7302250; omega⟩) (fun r3 S2 H locs hV hM => ?_)
  refine lv_aload_n hx hb dL_law_1194 rfl (lv_at hl 2 rfl) ?_
  have hk4 := hM.1
  have hM := hM.2
  refine x_ci hV (x_runV (As := []) (rest := [.int r3]) C hV mi_X11_sign wl_L_143 hk4 (c_X11_sign hM) ⟨Nat.le_of_ble_eq_true rfl, Nat.le_of_ble_eq_true rfl⟩ rfl hl.1 (Nat.le_of_ble_eq_true rfl) dL_law_1195 ⟨by show cells + 0 + 0 ≤ 600000; omega, by show slots + 0 + 0 ≤ 7302250; omega⟩) (fun r6 S5 H locs hV hM => ?_)
  refine lv_icmp_eq (tgt := 1645) hx hb dL_law_1198 (by decide) (fun _ => ?_) (fun c => absurd hM.1 c)
  have hM := hM.2
  refine W.widen (k := cells + 2) (n := slots + 201) (by show cells + 0 + 0 ≤ _; omega) (by show slots + 0 + 0 ≤ _; omega) ?_
  exact next _ _ _ hM hV
set_option maxHeartbeats 4000000 in
set_option maxRecDepth 100000 in
theorem lz_30 {p : Program} {l : Launch} {e : Env} {s : State} {m : MethodId} {below : List Frame} {meth : Method} {c : Code} {D : DX} {cA : Nat → ClassId} {z0 N b L : Nat} {xs : Nat → Int32} {Q : State → Prop} {cells slots i x mm : Nat} {J : PS → Prop} {S : PS} {H : Heap} {locs : List Loc} {ls : Array Slot} (C : CX p s m #[.ref b] meth c code 4 RL (some .boolean) D cA z0) (hX : va_X b L xs s s.heap) (hbl : b < s.heap.size) (hbA : ¬ zA z0 b) (hi : i + 6 ≤ L) (hL : L ≤ 384) (hcc : cells + 4 ≤ 600000) (hcs : slots + 500 ≤ 7302250) (hV : XV D cA z0 s S H locs) (hl : lv_has ls 4 [(0, .ref b), (1, .ref x), (2, .ref mm), (3, .int (nI i))]) (hM : lc_30 N x mm J S (xs (i + 1)))
    (next : ∀ (S2 : PS) (H2 : Heap) (locs2 : List Loc), J S2 → XV D cA z0 s S2 H2 locs2 → W p l e room_1 s m #[.ref b] below meth c H2 locs2 (cells + 2) (slots + 201) Q (F0 m 1645 ls [])) : W p l e room_1 s m #[.ref b] below meth c H locs cells slots Q (F0 m 1203 ls []) := by
  obtain ⟨hx, hb, hml, hown, hts, hK, hz, hlk, hr⟩ := id C
  unfold lc_30 at hM
  refine lv_aload_n hx hb dL_law_1203 rfl (lv_at hl 1 rfl) ?_
  refine lv_aload_n hx hb dL_law_1204 rfl (lv_at hl 0 rfl) ?_
  refine lv_iload_n hx hb dL_law_1205 rfl (lv_at hl 3 rfl) ?_
  refine lv_iconst (v := 1) hx hb dL_law_1206 (by decide) ?_
  refine lv_iadd hx hb dL_law_1207 ?_
  refine va_sld hx hb hX hbl hbA hV.2 (lw_in1 hi hL) dL_law_1208 ?_
  rw [lw_at1 hi hL]
  have hk1 := hM.1
  have hM := hM.2
  refine x_ci hV (x_runV (As := [.int (xs (i + 1))]) (rest := []) C hV mi_X10_prove wl_L_144 hk1 (c_X10_prove hM) ⟨Nat.le_of_ble_eq_true rfl, Nat.le_of_ble_eq_true rfl⟩ rfl hl.1 (Nat.le_of_ble_eq_true rfl) dL_law_1209 ⟨by show cells + 0 ≤ 600000; omega, by show slots + 0 ≤ 7302250; omega⟩) (fun r3 S2 H locs hV hM => ?_)
  refine lv_aload_n hx hb dL_law_1212 rfl (lv_at hl 2 rfl) ?_
  refine lv_aload_n hx hb dL_law_1213 rfl (lv_at hl 0 rfl) ?_
  refine lv_iload_n hx hb dL_law_1214 rfl (lv_at hl 3 rfl) ?_
  refine lv_iconst (v := 1) hx hb dL_law_1215 (by decide) ?_
  refine lv_iadd hx hb dL_law_1216 ?_
  refine va_sld hx hb hX hbl hbA hV.2 (lw_in1 hi hL) dL_law_1217 ?_
  rw [lw_at1 hi hL]
  have hk4 := hM.1
  have hM := hM.2
  refine x_ci hV (x_runV (As := [.int (xs (i + 1))]) (rest := [.int r3]) C hV mi_X11_prove wl_L_147 hk4 (c_X11_prove hM) ⟨Nat.le_of_ble_eq_true rfl, Nat.le_of_ble_eq_true rfl⟩ rfl hl.1 (Nat.le_of_ble_eq_true rfl) dL_law_1218 ⟨by show cells + 0 + 0 ≤ 600000; omega, by show slots + 0 + 0 ≤ 7302250; omega⟩) (fun r6 S5 H locs hV hM => ?_)
  refine lv_icmp_eq (tgt := 1645) hx hb dL_law_1221 (by decide) (fun _ => ?_) (fun c => absurd hM.1 c)
  have hM := hM.2
  refine W.widen (k := cells + 2) (n := slots + 201) (by show cells + 0 + 0 ≤ _; omega) (by show slots + 0 + 0 ≤ _; omega) ?_
  exact next _ _ _ hM hV
set_option maxHeartbeats 4000000 in
set_option maxRecDepth 100000 in
theorem lz_31 {p : Program} {l : Launch} {e : Env} {s : State} {m : MethodId} {below : List Frame} {meth : Method} {c : Code} {D : DX} {cA : Nat → ClassId} {z0 N b L : Nat} {xs : Nat → Int32} {Q : State → Prop} {cells slots i x mm : Nat} {J : PS → Prop} {S : PS} {H : Heap} {locs : List Loc} {ls : Array Slot} (C : CX p s m #[.ref b] meth c code 4 RL (some .boolean) D cA z0) (hX : va_X b L xs s s.heap) (hbl : b < s.heap.size) (hbA : ¬ zA z0 b) (hi : i + 6 ≤ L) (hL : L ≤ 384) (hcc : cells + 4 ≤ 600000) (hcs : slots + 500 ≤ 7302250) (hV : XV D cA z0 s S H locs) (hl : lv_has ls 4 [(0, .ref b), (1, .ref x), (2, .ref mm), (3, .int (nI i))]) (hM : lc_31 N x mm J S (xs (i + 1)) (xs (i + 2)))
    (next : ∀ (S2 : PS) (H2 : Heap) (locs2 : List Loc), J S2 → XV D cA z0 s S2 H2 locs2 → W p l e room_1 s m #[.ref b] below meth c H2 locs2 (cells + 2) (slots + 201) Q (F0 m 1645 ls [])) : W p l e room_1 s m #[.ref b] below meth c H locs cells slots Q (F0 m 1226 ls []) := by
  obtain ⟨hx, hb, hml, hown, hts, hK, hz, hlk, hr⟩ := id C
  unfold lc_31 at hM
  refine lv_aload_n hx hb dL_law_1226 rfl (lv_at hl 1 rfl) ?_
  refine lv_aload_n hx hb dL_law_1227 rfl (lv_at hl 0 rfl) ?_
  refine lv_iload_n hx hb dL_law_1228 rfl (lv_at hl 3 rfl) ?_
  refine lv_iconst (v := 1) hx hb dL_law_1229 (by decide) ?_
  refine lv_iadd hx hb dL_law_1230 ?_
  refine va_sld hx hb hX hbl hbA hV.2 (lw_in1 hi hL) dL_law_1231 ?_
  rw [lw_at1 hi hL]
  refine lv_aload_n hx hb dL_law_1232 rfl (lv_at hl 0 rfl) ?_
  refine lv_iload_n hx hb dL_law_1233 rfl (lv_at hl 3 rfl) ?_
  refine lv_iconst (v := 2) hx hb dL_law_1234 (by decide) ?_
  refine lv_iadd hx hb dL_law_1235 ?_
  refine va_sld hx hb hX hbl hbA hV.2 (lw_in2 hi hL) dL_law_1236 ?_
  rw [lw_at2 hi hL]
  have hk1 := hM.1
  have hM := hM.2
  refine x_ci hV (x_runV (As := [.int (xs (i + 1)), .int (xs (i + 2))]) (rest := []) C hV mi_X10_row wl_L_148 hk1 (c_X10_row hM) ⟨Nat.le_of_ble_eq_true rfl, Nat.le_of_ble_eq_true rfl⟩ rfl hl.1 (Nat.le_of_ble_eq_true rfl) dL_law_1237 ⟨by show cells + 0 ≤ 600000; omega, by show slots + 0 ≤ 7302250; omega⟩) (fun r3 S2 H locs hV hM => ?_)
  refine lv_aload_n hx hb dL_law_1240 rfl (lv_at hl 2 rfl) ?_
  refine lv_aload_n hx hb dL_law_1241 rfl (lv_at hl 0 rfl) ?_
  refine lv_iload_n hx hb dL_law_1242 rfl (lv_at hl 3 rfl) ?_
  refine lv_iconst (v := 1) hx hb dL_law_1243 (by decide) ?_
  refine lv_iadd hx hb dL_law_1244 ?_
  refine va_sld hx hb hX hbl hbA hV.2 (lw_in1 hi hL) dL_law_1245 ?_
  rw [lw_at1 hi hL]
  refine lv_aload_n hx hb dL_law_1246 rfl (lv_at hl 0 rfl) ?_
  refine lv_iload_n hx hb dL_law_1247 rfl (lv_at hl 3 rfl) ?_
  refine lv_iconst (v := 2) hx hb dL_law_1248 (by decide) ?_
  refine lv_iadd hx hb dL_law_1249 ?_
  refine va_sld hx hb hX hbl hbA hV.2 (lw_in2 hi hL) dL_law_1250 ?_
  rw [lw_at2 hi hL]
  have hk4 := hM.1
  have hM := hM.2
  refine x_ci hV (x_runV (As := [.int (xs (i + 1)), .int (xs (i + 2))]) (rest := [.int r3]) C hV mi_X11_row wl_L_151 hk4 (c_X11_row hM) ⟨Nat.le_of_ble_eq_true rfl, Nat.le_of_ble_eq_true rfl⟩ rfl hl.1 (Nat.le_of_ble_eq_true rfl) dL_law_1251 ⟨by show cells + 0 + 0 ≤ 600000; omega, by show slots + 0 + 0 ≤ 7302250; omega⟩) (fun r6 S5 H locs hV hM => ?_)
  refine lv_icmp_eq (tgt := 1645) hx hb dL_law_1254 (by decide) (fun _ => ?_) (fun c => absurd hM.1 c)
  have hM := hM.2
  refine W.widen (k := cells + 2) (n := slots + 201) (by show cells + 0 + 0 ≤ _; omega) (by show slots + 0 + 0 ≤ _; omega) ?_
  exact next _ _ _ hM hV
set_option maxHeartbeats 4000000 in
set_option maxRecDepth 100000 in
theorem lz_32 {p : Program} {l : Launch} {e : Env} {s : State} {m : MethodId} {below : List Frame} {meth : Method} {c : Code} {D : DX} {cA : Nat → ClassId} {z0 N b L : Nat} {xs : Nat → Int32} {Q : State → Prop} {cells slots i x mm : Nat} {J : PS → Prop} {S : PS} {H : Heap} {locs : List Loc} {ls : Array Slot} (C : CX p s m #[.ref b] meth c code 4 RL (some .boolean) D cA z0) (hX : va_X b L xs s s.heap) (hbl : b < s.heap.size) (hbA : ¬ zA z0 b) (hi : i + 6 ≤ L) (hL : L ≤ 384) (hcc : cells + 4 ≤ 600000) (hcs : slots + 500 ≤ 7302250) (hV : XV D cA z0 s S H locs) (hl : lv_has ls 4 [(0, .ref b), (1, .ref x), (2, .ref mm), (3, .int (nI i))]) (hM : lc_32 N x mm J S (xs (i + 1)) (xs (i + 2)) (xs (i + 3)))
    (next : ∀ (S2 : PS) (H2 : Heap) (locs2 : List Loc), J S2 → XV D cA z0 s S2 H2 locs2 → W p l e room_1 s m #[.ref b] below meth c H2 locs2 (cells + 2) (slots + 201) Q (F0 m 1645 ls [])) : W p l e room_1 s m #[.ref b] below meth c H locs cells slots Q (F0 m 1259 ls []) := by
  obtain ⟨hx, hb, hml, hown, hts, hK, hz, hlk, hr⟩ := id C
  unfold lc_32 at hM
  refine lv_aload_n hx hb dL_law_1259 rfl (lv_at hl 1 rfl) ?_
  refine lv_aload_n hx hb dL_law_1260 rfl (lv_at hl 0 rfl) ?_
  refine lv_iload_n hx hb dL_law_1261 rfl (lv_at hl 3 rfl) ?_
  refine lv_iconst (v := 1) hx hb dL_law_1262 (by decide) ?_
  refine lv_iadd hx hb dL_law_1263 ?_
  refine va_sld hx hb hX hbl hbA hV.2 (lw_in1 hi hL) dL_law_1264 ?_
  rw [lw_at1 hi hL]
  refine lv_aload_n hx hb dL_law_1265 rfl (lv_at hl 0 rfl) ?_
  refine lv_iload_n hx hb dL_law_1266 rfl (lv_at hl 3 rfl) ?_
  refine lv_iconst (v := 2) hx hb dL_law_1267 (by decide) ?_
  refine lv_iadd hx hb dL_law_1268 ?_
  refine va_sld hx hb hX hbl hbA hV.2 (lw_in2 hi hL) dL_law_1269 ?_
  rw [lw_at2 hi hL]
  refine lv_aload_n hx hb dL_law_1270 rfl (lv_at hl 0 rfl) ?_
  refine lv_iload_n hx hb dL_law_1271 rfl (lv_at hl 3 rfl) ?_
  refine lv_iconst (v := 3) hx hb dL_law_1272 (by decide) ?_
  refine lv_iadd hx hb dL_law_1273 ?_
  refine va_sld hx hb hX hbl hbA hV.2 (lw_in3 hi hL) dL_law_1274 ?_
  rw [lw_at3 hi hL]
  have hk1 := hM.1
  have hM := hM.2
  refine x_ci hV (x_runV (As := [.int (xs (i + 1)), .int (xs (i + 2)), .int (xs (i + 3))]) (rest := []) C hV mi_X10_alterRow wl_L_152 hk1 (c_X10_alterRow hM) ⟨Nat.le_of_ble_eq_true rfl, Nat.le_of_ble_eq_true rfl⟩ rfl hl.1 (Nat.le_of_ble_eq_true rfl) dL_law_1275 ⟨by show cells + 0 ≤ 600000; omega, by show slots + 0 ≤ 7302250; omega⟩) (fun r3 S2 H locs hV hM => ?_)
  refine lv_aload_n hx hb dL_law_1278 rfl (lv_at hl 2 rfl) ?_
  refine lv_aload_n hx hb dL_law_1279 rfl (lv_at hl 0 rfl) ?_
  refine lv_iload_n hx hb dL_law_1280 rfl (lv_at hl 3 rfl) ?_
  refine lv_iconst (v := 1) hx hb dL_law_1281 (by decide) ?_
  refine lv_iadd hx hb dL_law_1282 ?_
  refine va_sld hx hb hX hbl hbA hV.2 (lw_in1 hi hL) dL_law_1283 ?_
  rw [lw_at1 hi hL]
  refine lv_aload_n hx hb dL_law_1284 rfl (lv_at hl 0 rfl) ?_
  refine lv_iload_n hx hb dL_law_1285 rfl (lv_at hl 3 rfl) ?_
  refine lv_iconst (v := 2) hx hb dL_law_1286 (by decide) ?_
  refine lv_iadd hx hb dL_law_1287 ?_
  refine va_sld hx hb hX hbl hbA hV.2 (lw_in2 hi hL) dL_law_1288 ?_
  rw [lw_at2 hi hL]
  refine lv_aload_n hx hb dL_law_1289 rfl (lv_at hl 0 rfl) ?_
  refine lv_iload_n hx hb dL_law_1290 rfl (lv_at hl 3 rfl) ?_
  refine lv_iconst (v := 3) hx hb dL_law_1291 (by decide) ?_
  refine lv_iadd hx hb dL_law_1292 ?_
  refine va_sld hx hb hX hbl hbA hV.2 (lw_in3 hi hL) dL_law_1293 ?_
  rw [lw_at3 hi hL]
  have hk4 := hM.1
  have hM := hM.2
  refine x_ci hV (x_runV (As := [.int (xs (i + 1)), .int (xs (i + 2)), .int (xs (i + 3))]) (rest := [.int r3]) C hV mi_X11_alterRow wl_L_155 hk4 (c_X11_alterRow hM) ⟨Nat.le_of_ble_eq_true rfl, Nat.le_of_ble_eq_true rfl⟩ rfl hl.1 (Nat.le_of_ble_eq_true rfl) dL_law_1294 ⟨by show cells + 0 + 0 ≤ 600000; omega, by show slots + 0 + 0 ≤ 7302250; omega⟩) (fun r6 S5 H locs hV hM => ?_)
  refine lv_icmp_eq (tgt := 1645) hx hb dL_law_1297 (by decide) (fun _ => ?_) (fun c => absurd hM.1 c)
  have hM := hM.2
  refine W.widen (k := cells + 2) (n := slots + 201) (by show cells + 0 + 0 ≤ _; omega) (by show slots + 0 + 0 ≤ _; omega) ?_
  exact next _ _ _ hM hV
set_option maxHeartbeats 4000000 in
set_option maxRecDepth 100000 in
theorem lz_33 {p : Program} {l : Launch} {e : Env} {s : State} {m : MethodId} {below : List Frame} {meth : Method} {c : Code} {D : DX} {cA : Nat → ClassId} {z0 N b L : Nat} {xs : Nat → Int32} {Q : State → Prop} {cells slots i x mm : Nat} {J : PS → Prop} {S : PS} {H : Heap} {locs : List Loc} {ls : Array Slot} (C : CX p s m #[.ref b] meth c code 4 RL (some .boolean) D cA z0) (hX : va_X b L xs s s.heap) (hbl : b < s.heap.size) (hbA : ¬ zA z0 b) (hi : i + 6 ≤ L) (hL : L ≤ 384) (hcc : cells + 4 ≤ 600000) (hcs : slots + 500 ≤ 7302250) (hV : XV D cA z0 s S H locs) (hl : lv_has ls 4 [(0, .ref b), (1, .ref x), (2, .ref mm), (3, .int (nI i))]) (hM : lc_33 N x mm J S (xs (i + 1)))
    (next : ∀ (S2 : PS) (H2 : Heap) (locs2 : List Loc), J S2 → XV D cA z0 s S2 H2 locs2 → W p l e room_1 s m #[.ref b] below meth c H2 locs2 (cells + 2) (slots + 201) Q (F0 m 1645 ls [])) : W p l e room_1 s m #[.ref b] below meth c H locs cells slots Q (F0 m 1302 ls []) := by
  obtain ⟨hx, hb, hml, hown, hts, hK, hz, hlk, hr⟩ := id C
  unfold lc_33 at hM
  refine lv_aload_n hx hb dL_law_1302 rfl (lv_at hl 1 rfl) ?_
  refine lv_aload_n hx hb dL_law_1303 rfl (lv_at hl 0 rfl) ?_
  refine lv_iload_n hx hb dL_law_1304 rfl (lv_at hl 3 rfl) ?_
  refine lv_iconst (v := 1) hx hb dL_law_1305 (by decide) ?_
  refine lv_iadd hx hb dL_law_1306 ?_
  refine va_sld hx hb hX hbl hbA hV.2 (lw_in1 hi hL) dL_law_1307 ?_
  rw [lw_at1 hi hL]
  have hk1 := hM.1
  have hM := hM.2
  refine x_ci hV (x_runV (As := [.int (xs (i + 1))]) (rest := []) C hV mi_X10_judge wl_L_156 hk1 (c_X10_judge hM) ⟨Nat.le_of_ble_eq_true rfl, Nat.le_of_ble_eq_true rfl⟩ rfl hl.1 (Nat.le_of_ble_eq_true rfl) dL_law_1308 ⟨by show cells + 0 ≤ 600000; omega, by show slots + 0 ≤ 7302250; omega⟩) (fun r3 S2 H locs hV hM => ?_)
  refine lv_aload_n hx hb dL_law_1311 rfl (lv_at hl 2 rfl) ?_
  refine lv_aload_n hx hb dL_law_1312 rfl (lv_at hl 0 rfl) ?_
  refine lv_iload_n hx hb dL_law_1313 rfl (lv_at hl 3 rfl) ?_
  refine lv_iconst (v := 1) hx hb dL_law_1314 (by decide) ?_
  refine lv_iadd hx hb dL_law_1315 ?_
  refine va_sld hx hb hX hbl hbA hV.2 (lw_in1 hi hL) dL_law_1316 ?_
  rw [lw_at1 hi hL]
  have hk4 := hM.1
  have hM := hM.2
  refine x_ci hV (x_runV (As := [.int (xs (i + 1))]) (rest := [.int r3]) C hV mi_X11_judge wl_L_159 hk4 (c_X11_judge hM) ⟨Nat.le_of_ble_eq_true rfl, Nat.le_of_ble_eq_true rfl⟩ rfl hl.1 (Nat.le_of_ble_eq_true rfl) dL_law_1317 ⟨by show cells + 0 + 0 ≤ 600000; omega, by show slots + 0 + 0 ≤ 7302250; omega⟩) (fun r6 S5 H locs hV hM => ?_)
  refine lv_icmp_eq (tgt := 1645) hx hb dL_law_1320 (by decide) (fun _ => ?_) (fun c => absurd hM.1 c)
  have hM := hM.2
  refine W.widen (k := cells + 2) (n := slots + 201) (by show cells + 0 + 0 ≤ _; omega) (by show slots + 0 + 0 ≤ _; omega) ?_
  exact next _ _ _ hM hV
set_option maxHeartbeats 4000000 in
set_option maxRecDepth 100000 in
theorem lz_34 {p : Program} {l : Launch} {e : Env} {s : State} {m : MethodId} {below : List Frame} {meth : Method} {c : Code} {D : DX} {cA : Nat → ClassId} {z0 N b L : Nat} {xs : Nat → Int32} {Q : State → Prop} {cells slots i x mm : Nat} {J : PS → Prop} {S : PS} {H : Heap} {locs : List Loc} {ls : Array Slot} (C : CX p s m #[.ref b] meth c code 4 RL (some .boolean) D cA z0) (hX : va_X b L xs s s.heap) (hbl : b < s.heap.size) (hbA : ¬ zA z0 b) (hi : i + 6 ≤ L) (hL : L ≤ 384) (hcc : cells + 4 ≤ 600000) (hcs : slots + 500 ≤ 7302250) (hV : XV D cA z0 s S H locs) (hl : lv_has ls 4 [(0, .ref b), (1, .ref x), (2, .ref mm), (3, .int (nI i))]) (hM : lc_34 N x mm J S (xs (i + 1)) (xs (i + 2)) (xs (i + 3)))
    (next : ∀ (S2 : PS) (H2 : Heap) (locs2 : List Loc), J S2 → XV D cA z0 s S2 H2 locs2 → W p l e room_1 s m #[.ref b] below meth c H2 locs2 (cells + 2) (slots + 201) Q (F0 m 1645 ls [])) : W p l e room_1 s m #[.ref b] below meth c H locs cells slots Q (F0 m 1325 ls []) := by
  obtain ⟨hx, hb, hml, hown, hts, hK, hz, hlk, hr⟩ := id C
  unfold lc_34 at hM
  refine lv_aload_n hx hb dL_law_1325 rfl (lv_at hl 1 rfl) ?_
  refine lv_aload_n hx hb dL_law_1326 rfl (lv_at hl 0 rfl) ?_
  refine lv_iload_n hx hb dL_law_1327 rfl (lv_at hl 3 rfl) ?_
  refine lv_iconst (v := 1) hx hb dL_law_1328 (by decide) ?_
  refine lv_iadd hx hb dL_law_1329 ?_
  refine va_sld hx hb hX hbl hbA hV.2 (lw_in1 hi hL) dL_law_1330 ?_
  rw [lw_at1 hi hL]
  refine lv_aload_n hx hb dL_law_1331 rfl (lv_at hl 0 rfl) ?_
  refine lv_iload_n hx hb dL_law_1332 rfl (lv_at hl 3 rfl) ?_
  refine lv_iconst (v := 2) hx hb dL_law_1333 (by decide) ?_
  refine lv_iadd hx hb dL_law_1334 ?_
  refine va_sld hx hb hX hbl hbA hV.2 (lw_in2 hi hL) dL_law_1335 ?_
  rw [lw_at2 hi hL]
  refine lv_aload_n hx hb dL_law_1336 rfl (lv_at hl 0 rfl) ?_
  refine lv_iload_n hx hb dL_law_1337 rfl (lv_at hl 3 rfl) ?_
  refine lv_iconst (v := 3) hx hb dL_law_1338 (by decide) ?_
  refine lv_iadd hx hb dL_law_1339 ?_
  refine va_sld hx hb hX hbl hbA hV.2 (lw_in3 hi hL) dL_law_1340 ?_
  rw [lw_at3 hi hL]
  have hk1 := hM.1
  have hM := hM.2
  refine x_ci hV (x_runV (As := [.int (xs (i + 1)), .int (xs (i + 2)), .int (xs (i + 3))]) (rest := []) C hV mi_X10_sheet wl_L_160 hk1 (c_X10_sheet hM) ⟨Nat.le_of_ble_eq_true rfl, Nat.le_of_ble_eq_true rfl⟩ rfl hl.1 (Nat.le_of_ble_eq_true rfl) dL_law_1341 ⟨by show cells + 0 ≤ 600000; omega, by show slots + 0 ≤ 7302250; omega⟩) (fun r3 S2 H locs hV hM => ?_)
  refine lv_aload_n hx hb dL_law_1344 rfl (lv_at hl 2 rfl) ?_
  refine lv_aload_n hx hb dL_law_1345 rfl (lv_at hl 0 rfl) ?_
  refine lv_iload_n hx hb dL_law_1346 rfl (lv_at hl 3 rfl) ?_
  refine lv_iconst (v := 1) hx hb dL_law_1347 (by decide) ?_
  refine lv_iadd hx hb dL_law_1348 ?_
  refine va_sld hx hb hX hbl hbA hV.2 (lw_in1 hi hL) dL_law_1349 ?_
  rw [lw_at1 hi hL]
  refine lv_aload_n hx hb dL_law_1350 rfl (lv_at hl 0 rfl) ?_
  refine lv_iload_n hx hb dL_law_1351 rfl (lv_at hl 3 rfl) ?_
  refine lv_iconst (v := 2) hx hb dL_law_1352 (by decide) ?_
  refine lv_iadd hx hb dL_law_1353 ?_
  refine va_sld hx hb hX hbl hbA hV.2 (lw_in2 hi hL) dL_law_1354 ?_
  rw [lw_at2 hi hL]
  refine lv_aload_n hx hb dL_law_1355 rfl (lv_at hl 0 rfl) ?_
  refine lv_iload_n hx hb dL_law_1356 rfl (lv_at hl 3 rfl) ?_
  refine lv_iconst (v := 3) hx hb dL_law_1357 (by decide) ?_
  refine lv_iadd hx hb dL_law_1358 ?_
  refine va_sld hx hb hX hbl hbA hV.2 (lw_in3 hi hL) dL_law_1359 ?_
  rw [lw_at3 hi hL]
  have hk4 := hM.1
  have hM := hM.2
  refine x_ci hV (x_runV (As := [.int (xs (i + 1)), .int (xs (i + 2)), .int (xs (i + 3))]) (rest := [.int r3]) C hV mi_X11_sheet wl_L_163 hk4 (c_X11_sheet hM) ⟨Nat.le_of_ble_eq_true rfl, Nat.le_of_ble_eq_true rfl⟩ rfl hl.1 (Nat.le_of_ble_eq_true rfl) dL_law_1360 ⟨by show cells + 0 + 0 ≤ 600000; omega, by show slots + 0 + 0 ≤ 7302250; omega⟩) (fun r6 S5 H locs hV hM => ?_)
  refine lv_icmp_eq (tgt := 1645) hx hb dL_law_1363 (by decide) (fun _ => ?_) (fun c => absurd hM.1 c)
  have hM := hM.2
  refine W.widen (k := cells + 2) (n := slots + 201) (by show cells + 0 + 0 ≤ _; omega) (by show slots + 0 + 0 ≤ _; omega) ?_
  exact next _ _ _ hM hV
set_option maxHeartbeats 4000000 in
set_option maxRecDepth 100000 in
theorem lz_35 {p : Program} {l : Launch} {e : Env} {s : State} {m : MethodId} {below : List Frame} {meth : Method} {c : Code} {D : DX} {cA : Nat → ClassId} {z0 N b L : Nat} {xs : Nat → Int32} {Q : State → Prop} {cells slots i x mm : Nat} {J : PS → Prop} {S : PS} {H : Heap} {locs : List Loc} {ls : Array Slot} (C : CX p s m #[.ref b] meth c code 4 RL (some .boolean) D cA z0) (hX : va_X b L xs s s.heap) (hbl : b < s.heap.size) (hbA : ¬ zA z0 b) (hi : i + 6 ≤ L) (hL : L ≤ 384) (hcc : cells + 4 ≤ 600000) (hcs : slots + 500 ≤ 7302250) (hV : XV D cA z0 s S H locs) (hl : lv_has ls 4 [(0, .ref b), (1, .ref x), (2, .ref mm), (3, .int (nI i))]) (hM : lc_35 N x mm J S (xs (i + 1)) (xs (i + 2)) (xs (i + 3)))
    (next : ∀ (S2 : PS) (H2 : Heap) (locs2 : List Loc), J S2 → XV D cA z0 s S2 H2 locs2 → W p l e room_1 s m #[.ref b] below meth c H2 locs2 (cells + 2) (slots + 201) Q (F0 m 1645 ls [])) : W p l e room_1 s m #[.ref b] below meth c H locs cells slots Q (F0 m 1368 ls []) := by
  obtain ⟨hx, hb, hml, hown, hts, hK, hz, hlk, hr⟩ := id C
  unfold lc_35 at hM
  refine lv_aload_n hx hb dL_law_1368 rfl (lv_at hl 1 rfl) ?_
  refine lv_aload_n hx hb dL_law_1369 rfl (lv_at hl 0 rfl) ?_
  refine lv_iload_n hx hb dL_law_1370 rfl (lv_at hl 3 rfl) ?_
  refine lv_iconst (v := 1) hx hb dL_law_1371 (by decide) ?_
  refine lv_iadd hx hb dL_law_1372 ?_
  refine va_sld hx hb hX hbl hbA hV.2 (lw_in1 hi hL) dL_law_1373 ?_
  rw [lw_at1 hi hL]
  refine lv_aload_n hx hb dL_law_1374 rfl (lv_at hl 0 rfl) ?_
  refine lv_iload_n hx hb dL_law_1375 rfl (lv_at hl 3 rfl) ?_
  refine lv_iconst (v := 2) hx hb dL_law_1376 (by decide) ?_
  refine lv_iadd hx hb dL_law_1377 ?_
  refine va_sld hx hb hX hbl hbA hV.2 (lw_in2 hi hL) dL_law_1378 ?_
  rw [lw_at2 hi hL]
  refine lv_aload_n hx hb dL_law_1379 rfl (lv_at hl 0 rfl) ?_
  refine lv_iload_n hx hb dL_law_1380 rfl (lv_at hl 3 rfl) ?_
  refine lv_iconst (v := 3) hx hb dL_law_1381 (by decide) ?_
  refine lv_iadd hx hb dL_law_1382 ?_
  refine va_sld hx hb hX hbl hbA hV.2 (lw_in3 hi hL) dL_law_1383 ?_
  rw [lw_at3 hi hL]
  have hk1 := hM.1
  have hM := hM.2
  refine x_ci hV (x_runV (As := [.int (xs (i + 1)), .int (xs (i + 2)), .int (xs (i + 3))]) (rest := []) C hV mi_X10_put wl_L_164 hk1 (c_X10_put hM) ⟨Nat.le_of_ble_eq_true rfl, Nat.le_of_ble_eq_true rfl⟩ rfl hl.1 (Nat.le_of_ble_eq_true rfl) dL_law_1384 ⟨by show cells + 0 ≤ 600000; omega, by show slots + 0 ≤ 7302250; omega⟩) (fun r3 S2 H locs hV hM => ?_)
  refine lv_aload_n hx hb dL_law_1387 rfl (lv_at hl 2 rfl) ?_
  refine lv_aload_n hx hb dL_law_1388 rfl (lv_at hl 0 rfl) ?_
  refine lv_iload_n hx hb dL_law_1389 rfl (lv_at hl 3 rfl) ?_
  refine lv_iconst (v := 1) hx hb dL_law_1390 (by decide) ?_
  refine lv_iadd hx hb dL_law_1391 ?_
  refine va_sld hx hb hX hbl hbA hV.2 (lw_in1 hi hL) dL_law_1392 ?_
  rw [lw_at1 hi hL]
  refine lv_aload_n hx hb dL_law_1393 rfl (lv_at hl 0 rfl) ?_
  refine lv_iload_n hx hb dL_law_1394 rfl (lv_at hl 3 rfl) ?_
  refine lv_iconst (v := 2) hx hb dL_law_1395 (by decide) ?_
  refine lv_iadd hx hb dL_law_1396 ?_
  refine va_sld hx hb hX hbl hbA hV.2 (lw_in2 hi hL) dL_law_1397 ?_
  rw [lw_at2 hi hL]
  refine lv_aload_n hx hb dL_law_1398 rfl (lv_at hl 0 rfl) ?_
  refine lv_iload_n hx hb dL_law_1399 rfl (lv_at hl 3 rfl) ?_
  refine lv_iconst (v := 3) hx hb dL_law_1400 (by decide) ?_
  refine lv_iadd hx hb dL_law_1401 ?_
  refine va_sld hx hb hX hbl hbA hV.2 (lw_in3 hi hL) dL_law_1402 ?_
  rw [lw_at3 hi hL]
  have hk4 := hM.1
  have hM := hM.2
  refine x_ci hV (x_runV (As := [.int (xs (i + 1)), .int (xs (i + 2)), .int (xs (i + 3))]) (rest := [.int r3]) C hV mi_X11_put wl_L_167 hk4 (c_X11_put hM) ⟨Nat.le_of_ble_eq_true rfl, Nat.le_of_ble_eq_true rfl⟩ rfl hl.1 (Nat.le_of_ble_eq_true rfl) dL_law_1403 ⟨by show cells + 0 + 0 ≤ 600000; omega, by show slots + 0 + 0 ≤ 7302250; omega⟩) (fun r6 S5 H locs hV hM => ?_)
  refine lv_icmp_eq (tgt := 1645) hx hb dL_law_1406 (by decide) (fun _ => ?_) (fun c => absurd hM.1 c)
  have hM := hM.2
  refine W.widen (k := cells + 2) (n := slots + 201) (by show cells + 0 + 0 ≤ _; omega) (by show slots + 0 + 0 ≤ _; omega) ?_
  exact next _ _ _ hM hV
set_option maxHeartbeats 4000000 in
set_option maxRecDepth 100000 in
theorem lz_36 {p : Program} {l : Launch} {e : Env} {s : State} {m : MethodId} {below : List Frame} {meth : Method} {c : Code} {D : DX} {cA : Nat → ClassId} {z0 N b L : Nat} {xs : Nat → Int32} {Q : State → Prop} {cells slots i x mm : Nat} {J : PS → Prop} {S : PS} {H : Heap} {locs : List Loc} {ls : Array Slot} (C : CX p s m #[.ref b] meth c code 4 RL (some .boolean) D cA z0) (hX : va_X b L xs s s.heap) (hbl : b < s.heap.size) (hbA : ¬ zA z0 b) (hi : i + 6 ≤ L) (hL : L ≤ 384) (hcc : cells + 4 ≤ 600000) (hcs : slots + 500 ≤ 7302250) (hV : XV D cA z0 s S H locs) (hl : lv_has ls 4 [(0, .ref b), (1, .ref x), (2, .ref mm), (3, .int (nI i))]) (hM : lc_36 N x mm J S (xs (i + 1)) (xs (i + 2)) (xs (i + 3)))
    (next : ∀ (S2 : PS) (H2 : Heap) (locs2 : List Loc), J S2 → XV D cA z0 s S2 H2 locs2 → W p l e room_1 s m #[.ref b] below meth c H2 locs2 (cells + 2) (slots + 201) Q (F0 m 1645 ls [])) : W p l e room_1 s m #[.ref b] below meth c H locs cells slots Q (F0 m 1411 ls []) := by
  obtain ⟨hx, hb, hml, hown, hts, hK, hz, hlk, hr⟩ := id C
  unfold lc_36 at hM
  refine lv_aload_n hx hb dL_law_1411 rfl (lv_at hl 1 rfl) ?_
  refine lv_aload_n hx hb dL_law_1412 rfl (lv_at hl 0 rfl) ?_
  refine lv_iload_n hx hb dL_law_1413 rfl (lv_at hl 3 rfl) ?_
  refine lv_iconst (v := 1) hx hb dL_law_1414 (by decide) ?_
  refine lv_iadd hx hb dL_law_1415 ?_
  refine va_sld hx hb hX hbl hbA hV.2 (lw_in1 hi hL) dL_law_1416 ?_
  rw [lw_at1 hi hL]
  refine lv_aload_n hx hb dL_law_1417 rfl (lv_at hl 0 rfl) ?_
  refine lv_iload_n hx hb dL_law_1418 rfl (lv_at hl 3 rfl) ?_
  refine lv_iconst (v := 2) hx hb dL_law_1419 (by decide) ?_
  refine lv_iadd hx hb dL_law_1420 ?_
  refine va_sld hx hb hX hbl hbA hV.2 (lw_in2 hi hL) dL_law_1421 ?_
  rw [lw_at2 hi hL]
  refine lv_aload_n hx hb dL_law_1422 rfl (lv_at hl 0 rfl) ?_
  refine lv_iload_n hx hb dL_law_1423 rfl (lv_at hl 3 rfl) ?_
  refine lv_iconst (v := 3) hx hb dL_law_1424 (by decide) ?_
  refine lv_iadd hx hb dL_law_1425 ?_
  refine va_sld hx hb hX hbl hbA hV.2 (lw_in3 hi hL) dL_law_1426 ?_
  rw [lw_at3 hi hL]
  have hk1 := hM.1
  have hM := hM.2
  refine x_ci hV (x_runV (As := [.int (xs (i + 1)), .int (xs (i + 2)), .int (xs (i + 3))]) (rest := []) C hV mi_X10_item wl_L_168 hk1 (c_X10_item hM) ⟨Nat.le_of_ble_eq_true rfl, Nat.le_of_ble_eq_true rfl⟩ rfl hl.1 (Nat.le_of_ble_eq_true rfl) dL_law_1427 ⟨by show cells + 0 ≤ 600000; omega, by show slots + 0 ≤ 7302250; omega⟩) (fun r3 S2 H locs hV hM => ?_)
  refine lv_aload_n hx hb dL_law_1430 rfl (lv_at hl 2 rfl) ?_
  refine lv_aload_n hx hb dL_law_1431 rfl (lv_at hl 0 rfl) ?_
  refine lv_iload_n hx hb dL_law_1432 rfl (lv_at hl 3 rfl) ?_
  refine lv_iconst (v := 1) hx hb dL_law_1433 (by decide) ?_
  refine lv_iadd hx hb dL_law_1434 ?_
  refine va_sld hx hb hX hbl hbA hV.2 (lw_in1 hi hL) dL_law_1435 ?_
  rw [lw_at1 hi hL]
  refine lv_aload_n hx hb dL_law_1436 rfl (lv_at hl 0 rfl) ?_
  refine lv_iload_n hx hb dL_law_1437 rfl (lv_at hl 3 rfl) ?_
  refine lv_iconst (v := 2) hx hb dL_law_1438 (by decide) ?_
  refine lv_iadd hx hb dL_law_1439 ?_
  refine va_sld hx hb hX hbl hbA hV.2 (lw_in2 hi hL) dL_law_1440 ?_
  rw [lw_at2 hi hL]
  refine lv_aload_n hx hb dL_law_1441 rfl (lv_at hl 0 rfl) ?_
  refine lv_iload_n hx hb dL_law_1442 rfl (lv_at hl 3 rfl) ?_
  refine lv_iconst (v := 3) hx hb dL_law_1443 (by decide) ?_
  refine lv_iadd hx hb dL_law_1444 ?_
  refine va_sld hx hb hX hbl hbA hV.2 (lw_in3 hi hL) dL_law_1445 ?_
  rw [lw_at3 hi hL]
  have hk4 := hM.1
  have hM := hM.2
  refine x_ci hV (x_runV (As := [.int (xs (i + 1)), .int (xs (i + 2)), .int (xs (i + 3))]) (rest := [.int r3]) C hV mi_X11_item wl_L_171 hk4 (c_X11_item hM) ⟨Nat.le_of_ble_eq_true rfl, Nat.le_of_ble_eq_true rfl⟩ rfl hl.1 (Nat.le_of_ble_eq_true rfl) dL_law_1446 ⟨by show cells + 0 + 0 ≤ 600000; omega, by show slots + 0 + 0 ≤ 7302250; omega⟩) (fun r6 S5 H locs hV hM => ?_)
  refine lv_icmp_eq (tgt := 1645) hx hb dL_law_1449 (by decide) (fun _ => ?_) (fun c => absurd hM.1 c)
  have hM := hM.2
  refine W.widen (k := cells + 2) (n := slots + 201) (by show cells + 0 + 0 ≤ _; omega) (by show slots + 0 + 0 ≤ _; omega) ?_
  exact next _ _ _ hM hV
set_option maxHeartbeats 4000000 in
set_option maxRecDepth 100000 in
theorem lz_37 {p : Program} {l : Launch} {e : Env} {s : State} {m : MethodId} {below : List Frame} {meth : Method} {c : Code} {D : DX} {cA : Nat → ClassId} {z0 N b L : Nat} {xs : Nat → Int32} {Q : State → Prop} {cells slots i x mm : Nat} {J : PS → Prop} {S : PS} {H : Heap} {locs : List Loc} {ls : Array Slot} (C : CX p s m #[.ref b] meth c code 4 RL (some .boolean) D cA z0) (hX : va_X b L xs s s.heap) (hbl : b < s.heap.size) (hbA : ¬ zA z0 b) (hi : i + 6 ≤ L) (hL : L ≤ 384) (hcc : cells + 4 ≤ 600000) (hcs : slots + 500 ≤ 7302250) (hV : XV D cA z0 s S H locs) (hl : lv_has ls 4 [(0, .ref b), (1, .ref x), (2, .ref mm), (3, .int (nI i))]) (hM : lc_37 N x mm J S (xs (i + 1)) (xs (i + 2)) (xs (i + 3)))
    (next : ∀ (S2 : PS) (H2 : Heap) (locs2 : List Loc), J S2 → XV D cA z0 s S2 H2 locs2 → W p l e room_1 s m #[.ref b] below meth c H2 locs2 (cells + 2) (slots + 201) Q (F0 m 1645 ls [])) : W p l e room_1 s m #[.ref b] below meth c H locs cells slots Q (F0 m 1454 ls []) := by
  obtain ⟨hx, hb, hml, hown, hts, hK, hz, hlk, hr⟩ := id C
  unfold lc_37 at hM
  refine lv_aload_n hx hb dL_law_1454 rfl (lv_at hl 1 rfl) ?_
  refine lv_aload_n hx hb dL_law_1455 rfl (lv_at hl 0 rfl) ?_
  refine lv_iload_n hx hb dL_law_1456 rfl (lv_at hl 3 rfl) ?_
  refine lv_iconst (v := 1) hx hb dL_law_1457 (by decide) ?_
  refine lv_iadd hx hb dL_law_1458 ?_
  refine va_sld hx hb hX hbl hbA hV.2 (lw_in1 hi hL) dL_law_1459 ?_
  rw [lw_at1 hi hL]
  refine lv_aload_n hx hb dL_law_1460 rfl (lv_at hl 0 rfl) ?_
  refine lv_iload_n hx hb dL_law_1461 rfl (lv_at hl 3 rfl) ?_
  refine lv_iconst (v := 2) hx hb dL_law_1462 (by decide) ?_
  refine lv_iadd hx hb dL_law_1463 ?_
  refine va_sld hx hb hX hbl hbA hV.2 (lw_in2 hi hL) dL_law_1464 ?_
  rw [lw_at2 hi hL]
  refine lv_aload_n hx hb dL_law_1465 rfl (lv_at hl 0 rfl) ?_
  refine lv_iload_n hx hb dL_law_1466 rfl (lv_at hl 3 rfl) ?_
  refine lv_iconst (v := 3) hx hb dL_law_1467 (by decide) ?_
  refine lv_iadd hx hb dL_law_1468 ?_
  refine va_sld hx hb hX hbl hbA hV.2 (lw_in3 hi hL) dL_law_1469 ?_
  rw [lw_at3 hi hL]
  have hk1 := hM.1
  have hM := hM.2
  refine x_ci hV (x_runV (As := [.int (xs (i + 1)), .int (xs (i + 2)), .int (xs (i + 3))]) (rest := []) C hV mi_X10_shelf wl_L_172 hk1 (c_X10_shelf hM) ⟨Nat.le_of_ble_eq_true rfl, Nat.le_of_ble_eq_true rfl⟩ rfl hl.1 (Nat.le_of_ble_eq_true rfl) dL_law_1470 ⟨by show cells + 0 ≤ 600000; omega, by show slots + 0 ≤ 7302250; omega⟩) (fun r3 S2 H locs hV hM => ?_)
  refine lv_aload_n hx hb dL_law_1473 rfl (lv_at hl 2 rfl) ?_
  refine lv_aload_n hx hb dL_law_1474 rfl (lv_at hl 0 rfl) ?_
  refine lv_iload_n hx hb dL_law_1475 rfl (lv_at hl 3 rfl) ?_
  refine lv_iconst (v := 1) hx hb dL_law_1476 (by decide) ?_
  refine lv_iadd hx hb dL_law_1477 ?_
  refine va_sld hx hb hX hbl hbA hV.2 (lw_in1 hi hL) dL_law_1478 ?_
  rw [lw_at1 hi hL]
  refine lv_aload_n hx hb dL_law_1479 rfl (lv_at hl 0 rfl) ?_
  refine lv_iload_n hx hb dL_law_1480 rfl (lv_at hl 3 rfl) ?_
  refine lv_iconst (v := 2) hx hb dL_law_1481 (by decide) ?_
  refine lv_iadd hx hb dL_law_1482 ?_
  refine va_sld hx hb hX hbl hbA hV.2 (lw_in2 hi hL) dL_law_1483 ?_
  rw [lw_at2 hi hL]
  refine lv_aload_n hx hb dL_law_1484 rfl (lv_at hl 0 rfl) ?_
  refine lv_iload_n hx hb dL_law_1485 rfl (lv_at hl 3 rfl) ?_
  refine lv_iconst (v := 3) hx hb dL_law_1486 (by decide) ?_
  refine lv_iadd hx hb dL_law_1487 ?_
  refine va_sld hx hb hX hbl hbA hV.2 (lw_in3 hi hL) dL_law_1488 ?_
  rw [lw_at3 hi hL]
  have hk4 := hM.1
  have hM := hM.2
  refine x_ci hV (x_runV (As := [.int (xs (i + 1)), .int (xs (i + 2)), .int (xs (i + 3))]) (rest := [.int r3]) C hV mi_X11_shelf wl_L_175 hk4 (c_X11_shelf hM) ⟨Nat.le_of_ble_eq_true rfl, Nat.le_of_ble_eq_true rfl⟩ rfl hl.1 (Nat.le_of_ble_eq_true rfl) dL_law_1489 ⟨by show cells + 0 + 0 ≤ 600000; omega, by show slots + 0 + 0 ≤ 7302250; omega⟩) (fun r6 S5 H locs hV hM => ?_)
  refine lv_icmp_eq (tgt := 1645) hx hb dL_law_1492 (by decide) (fun _ => ?_) (fun c => absurd hM.1 c)
  have hM := hM.2
  refine W.widen (k := cells + 2) (n := slots + 201) (by show cells + 0 + 0 ≤ _; omega) (by show slots + 0 + 0 ≤ _; omega) ?_
  exact next _ _ _ hM hV
set_option maxHeartbeats 4000000 in
set_option maxRecDepth 100000 in
theorem lz_38 {p : Program} {l : Launch} {e : Env} {s : State} {m : MethodId} {below : List Frame} {meth : Method} {c : Code} {D : DX} {cA : Nat → ClassId} {z0 N b L : Nat} {xs : Nat → Int32} {Q : State → Prop} {cells slots i x mm : Nat} {J : PS → Prop} {S : PS} {H : Heap} {locs : List Loc} {ls : Array Slot} (C : CX p s m #[.ref b] meth c code 4 RL (some .boolean) D cA z0) (hX : va_X b L xs s s.heap) (hbl : b < s.heap.size) (hbA : ¬ zA z0 b) (hi : i + 6 ≤ L) (hL : L ≤ 384) (hcc : cells + 4 ≤ 600000) (hcs : slots + 500 ≤ 7302250) (hV : XV D cA z0 s S H locs) (hl : lv_has ls 4 [(0, .ref b), (1, .ref x), (2, .ref mm), (3, .int (nI i))]) (hM : lc_38 N x mm J S (xs (i + 1)) (xs (i + 2)))
    (next : ∀ (S2 : PS) (H2 : Heap) (locs2 : List Loc), J S2 → XV D cA z0 s S2 H2 locs2 → W p l e room_1 s m #[.ref b] below meth c H2 locs2 (cells + 2) (slots + 201) Q (F0 m 1645 ls [])) : W p l e room_1 s m #[.ref b] below meth c H locs cells slots Q (F0 m 1497 ls []) := by
  obtain ⟨hx, hb, hml, hown, hts, hK, hz, hlk, hr⟩ := id C
  unfold lc_38 at hM
  refine lv_aload_n hx hb dL_law_1497 rfl (lv_at hl 1 rfl) ?_
  refine lv_aload_n hx hb dL_law_1498 rfl (lv_at hl 0 rfl) ?_
  refine lv_iload_n hx hb dL_law_1499 rfl (lv_at hl 3 rfl) ?_
  refine lv_iconst (v := 1) hx hb dL_law_1500 (by decide) ?_
  refine lv_iadd hx hb dL_law_1501 ?_
  refine va_sld hx hb hX hbl hbA hV.2 (lw_in1 hi hL) dL_law_1502 ?_
  rw [lw_at1 hi hL]
  refine lv_aload_n hx hb dL_law_1503 rfl (lv_at hl 0 rfl) ?_
  refine lv_iload_n hx hb dL_law_1504 rfl (lv_at hl 3 rfl) ?_
  refine lv_iconst (v := 2) hx hb dL_law_1505 (by decide) ?_
  refine lv_iadd hx hb dL_law_1506 ?_
  refine va_sld hx hb hX hbl hbA hV.2 (lw_in2 hi hL) dL_law_1507 ?_
  rw [lw_at2 hi hL]
  have hk1 := hM.1
  have hM := hM.2
  refine x_ci hV (x_runV (As := [.int (xs (i + 1)), .int (xs (i + 2))]) (rest := []) C hV mi_X10_taken wl_L_176 hk1 (c_X10_taken hM) ⟨Nat.le_of_ble_eq_true rfl, Nat.le_of_ble_eq_true rfl⟩ rfl hl.1 (Nat.le_of_ble_eq_true rfl) dL_law_1508 ⟨by show cells + 0 ≤ 600000; omega, by show slots + 0 ≤ 7302250; omega⟩) (fun r3 S2 H locs hV hM => ?_)
  refine lv_aload_n hx hb dL_law_1511 rfl (lv_at hl 2 rfl) ?_
  refine lv_aload_n hx hb dL_law_1512 rfl (lv_at hl 0 rfl) ?_
  refine lv_iload_n hx hb dL_law_1513 rfl (lv_at hl 3 rfl) ?_
  refine lv_iconst (v := 1) hx hb dL_law_1514 (by decide) ?_
  refine lv_iadd hx hb dL_law_1515 ?_
  refine va_sld hx hb hX hbl hbA hV.2 (lw_in1 hi hL) dL_law_1516 ?_
  rw [lw_at1 hi hL]
  refine lv_aload_n hx hb dL_law_1517 rfl (lv_at hl 0 rfl) ?_
  refine lv_iload_n hx hb dL_law_1518 rfl (lv_at hl 3 rfl) ?_
  refine lv_iconst (v := 2) hx hb dL_law_1519 (by decide) ?_
  refine lv_iadd hx hb dL_law_1520 ?_
  refine va_sld hx hb hX hbl hbA hV.2 (lw_in2 hi hL) dL_law_1521 ?_
  rw [lw_at2 hi hL]
  have hk4 := hM.1
  have hM := hM.2
  refine x_ci hV (x_runV (As := [.int (xs (i + 1)), .int (xs (i + 2))]) (rest := [.int r3]) C hV mi_X11_taken wl_L_179 hk4 (c_X11_taken hM) ⟨Nat.le_of_ble_eq_true rfl, Nat.le_of_ble_eq_true rfl⟩ rfl hl.1 (Nat.le_of_ble_eq_true rfl) dL_law_1522 ⟨by show cells + 0 + 0 ≤ 600000; omega, by show slots + 0 + 0 ≤ 7302250; omega⟩) (fun r6 S5 H locs hV hM => ?_)
  refine lv_icmp_eq (tgt := 1645) hx hb dL_law_1525 (by decide) (fun _ => ?_) (fun c => absurd hM.1 c)
  have hM := hM.2
  refine W.widen (k := cells + 2) (n := slots + 201) (by show cells + 0 + 0 ≤ _; omega) (by show slots + 0 + 0 ≤ _; omega) ?_
  exact next _ _ _ hM hV
set_option maxHeartbeats 4000000 in
set_option maxRecDepth 100000 in
theorem lz_39 {p : Program} {l : Launch} {e : Env} {s : State} {m : MethodId} {below : List Frame} {meth : Method} {c : Code} {D : DX} {cA : Nat → ClassId} {z0 N b L : Nat} {xs : Nat → Int32} {Q : State → Prop} {cells slots i x mm : Nat} {J : PS → Prop} {S : PS} {H : Heap} {locs : List Loc} {ls : Array Slot} (C : CX p s m #[.ref b] meth c code 4 RL (some .boolean) D cA z0) (hX : va_X b L xs s s.heap) (hbl : b < s.heap.size) (hbA : ¬ zA z0 b) (hi : i + 6 ≤ L) (hL : L ≤ 384) (hcc : cells + 4 ≤ 600000) (hcs : slots + 500 ≤ 7302250) (hV : XV D cA z0 s S H locs) (hl : lv_has ls 4 [(0, .ref b), (1, .ref x), (2, .ref mm), (3, .int (nI i))]) (hM : lc_39 N x mm J S (xs (i + 1)) (xs (i + 2)) (xs (i + 3)))
    (next : ∀ (S2 : PS) (H2 : Heap) (locs2 : List Loc), J S2 → XV D cA z0 s S2 H2 locs2 → W p l e room_1 s m #[.ref b] below meth c H2 locs2 (cells + 2) (slots + 201) Q (F0 m 1645 ls [])) : W p l e room_1 s m #[.ref b] below meth c H locs cells slots Q (F0 m 1530 ls []) := by
  obtain ⟨hx, hb, hml, hown, hts, hK, hz, hlk, hr⟩ := id C
  unfold lc_39 at hM
  refine lv_aload_n hx hb dL_law_1530 rfl (lv_at hl 1 rfl) ?_
  refine lv_aload_n hx hb dL_law_1531 rfl (lv_at hl 0 rfl) ?_
  refine lv_iload_n hx hb dL_law_1532 rfl (lv_at hl 3 rfl) ?_
  refine lv_iconst (v := 1) hx hb dL_law_1533 (by decide) ?_
  refine lv_iadd hx hb dL_law_1534 ?_
  refine va_sld hx hb hX hbl hbA hV.2 (lw_in1 hi hL) dL_law_1535 ?_
  rw [lw_at1 hi hL]
  refine lv_aload_n hx hb dL_law_1536 rfl (lv_at hl 0 rfl) ?_
  refine lv_iload_n hx hb dL_law_1537 rfl (lv_at hl 3 rfl) ?_
  refine lv_iconst (v := 2) hx hb dL_law_1538 (by decide) ?_
  refine lv_iadd hx hb dL_law_1539 ?_
  refine va_sld hx hb hX hbl hbA hV.2 (lw_in2 hi hL) dL_law_1540 ?_
  rw [lw_at2 hi hL]
  refine lv_aload_n hx hb dL_law_1541 rfl (lv_at hl 0 rfl) ?_
  refine lv_iload_n hx hb dL_law_1542 rfl (lv_at hl 3 rfl) ?_
  refine lv_iconst (v := 3) hx hb dL_law_1543 (by decide) ?_
  refine lv_iadd hx hb dL_law_1544 ?_
  refine va_sld hx hb hX hbl hbA hV.2 (lw_in3 hi hL) dL_law_1545 ?_
  rw [lw_at3 hi hL]
  have hk1 := hM.1
  have hM := hM.2
  refine x_ci hV (x_runV (As := [.int (xs (i + 1)), .int (xs (i + 2)), .int (xs (i + 3))]) (rest := []) C hV mi_X10_act wl_L_180 hk1 (c_X10_act hM) ⟨Nat.le_of_ble_eq_true rfl, Nat.le_of_ble_eq_true rfl⟩ rfl hl.1 (Nat.le_of_ble_eq_true rfl) dL_law_1546 ⟨by show cells + 0 ≤ 600000; omega, by show slots + 0 ≤ 7302250; omega⟩) (fun r3 S2 H locs hV hM => ?_)
  refine lv_aload_n hx hb dL_law_1549 rfl (lv_at hl 2 rfl) ?_
  refine lv_aload_n hx hb dL_law_1550 rfl (lv_at hl 0 rfl) ?_
  refine lv_iload_n hx hb dL_law_1551 rfl (lv_at hl 3 rfl) ?_
  refine lv_iconst (v := 1) hx hb dL_law_1552 (by decide) ?_
  refine lv_iadd hx hb dL_law_1553 ?_
  refine va_sld hx hb hX hbl hbA hV.2 (lw_in1 hi hL) dL_law_1554 ?_
  rw [lw_at1 hi hL]
  refine lv_aload_n hx hb dL_law_1555 rfl (lv_at hl 0 rfl) ?_
  refine lv_iload_n hx hb dL_law_1556 rfl (lv_at hl 3 rfl) ?_
  refine lv_iconst (v := 2) hx hb dL_law_1557 (by decide) ?_
  refine lv_iadd hx hb dL_law_1558 ?_
  refine va_sld hx hb hX hbl hbA hV.2 (lw_in2 hi hL) dL_law_1559 ?_
  rw [lw_at2 hi hL]
  refine lv_aload_n hx hb dL_law_1560 rfl (lv_at hl 0 rfl) ?_
  refine lv_iload_n hx hb dL_law_1561 rfl (lv_at hl 3 rfl) ?_
  refine lv_iconst (v := 3) hx hb dL_law_1562 (by decide) ?_
  refine lv_iadd hx hb dL_law_1563 ?_
  refine va_sld hx hb hX hbl hbA hV.2 (lw_in3 hi hL) dL_law_1564 ?_
  rw [lw_at3 hi hL]
  have hk4 := hM.1
  have hM := hM.2
  refine x_ci hV (x_runV (As := [.int (xs (i + 1)), .int (xs (i + 2)), .int (xs (i + 3))]) (rest := [.int r3]) C hV mi_X11_act wl_L_183 hk4 (c_X11_act hM) ⟨Nat.le_of_ble_eq_true rfl, Nat.le_of_ble_eq_true rfl⟩ rfl hl.1 (Nat.le_of_ble_eq_true rfl) dL_law_1565 ⟨by show cells + 0 + 0 ≤ 600000; omega, by show slots + 0 + 0 ≤ 7302250; omega⟩) (fun r6 S5 H locs hV hM => ?_)
  refine lv_icmp_eq (tgt := 1645) hx hb dL_law_1568 (by decide) (fun _ => ?_) (fun c => absurd hM.1 c)
  have hM := hM.2
  refine W.widen (k := cells + 2) (n := slots + 201) (by show cells + 0 + 0 ≤ _; omega) (by show slots + 0 + 0 ≤ _; omega) ?_
  exact next _ _ _ hM hV
set_option maxHeartbeats 4000000 in
set_option maxRecDepth 100000 in
theorem lz_40 {p : Program} {l : Launch} {e : Env} {s : State} {m : MethodId} {below : List Frame} {meth : Method} {c : Code} {D : DX} {cA : Nat → ClassId} {z0 N b L : Nat} {xs : Nat → Int32} {Q : State → Prop} {cells slots i x mm : Nat} {J : PS → Prop} {S : PS} {H : Heap} {locs : List Loc} {ls : Array Slot} (C : CX p s m #[.ref b] meth c code 4 RL (some .boolean) D cA z0) (hX : va_X b L xs s s.heap) (hbl : b < s.heap.size) (hbA : ¬ zA z0 b) (hi : i + 6 ≤ L) (hL : L ≤ 384) (hcc : cells + 4 ≤ 600000) (hcs : slots + 500 ≤ 7302250) (hV : XV D cA z0 s S H locs) (hl : lv_has ls 4 [(0, .ref b), (1, .ref x), (2, .ref mm), (3, .int (nI i))]) (hM : lc_40 N x mm J S (xs (i + 1)))
    (next : ∀ (S2 : PS) (H2 : Heap) (locs2 : List Loc), J S2 → XV D cA z0 s S2 H2 locs2 → W p l e room_1 s m #[.ref b] below meth c H2 locs2 (cells + 2) (slots + 201) Q (F0 m 1645 ls [])) : W p l e room_1 s m #[.ref b] below meth c H locs cells slots Q (F0 m 1573 ls []) := by
  obtain ⟨hx, hb, hml, hown, hts, hK, hz, hlk, hr⟩ := id C
  unfold lc_40 at hM
  refine lv_aload_n hx hb dL_law_1573 rfl (lv_at hl 1 rfl) ?_
  refine lv_aload_n hx hb dL_law_1574 rfl (lv_at hl 0 rfl) ?_
  refine lv_iload_n hx hb dL_law_1575 rfl (lv_at hl 3 rfl) ?_
  refine lv_iconst (v := 1) hx hb dL_law_1576 (by decide) ?_
  refine lv_iadd hx hb dL_law_1577 ?_
  refine va_sld hx hb hX hbl hbA hV.2 (lw_in1 hi hL) dL_law_1578 ?_
  rw [lw_at1 hi hL]
  have hk1 := hM.1
  have hM := hM.2
  refine x_ci hV (x_runV (As := [.int (xs (i + 1))]) (rest := []) C hV mi_X10_trace wl_L_184 hk1 (c_X10_trace hM) ⟨Nat.le_of_ble_eq_true rfl, Nat.le_of_ble_eq_true rfl⟩ rfl hl.1 (Nat.le_of_ble_eq_true rfl) dL_law_1579 ⟨by show cells + 0 ≤ 600000; omega, by show slots + 0 ≤ 7302250; omega⟩) (fun r3 S2 H locs hV hM => ?_)
  refine lv_aload_n hx hb dL_law_1582 rfl (lv_at hl 2 rfl) ?_
  refine lv_aload_n hx hb dL_law_1583 rfl (lv_at hl 0 rfl) ?_
  refine lv_iload_n hx hb dL_law_1584 rfl (lv_at hl 3 rfl) ?_
  refine lv_iconst (v := 1) hx hb dL_law_1585 (by decide) ?_
  refine lv_iadd hx hb dL_law_1586 ?_
  refine va_sld hx hb hX hbl hbA hV.2 (lw_in1 hi hL) dL_law_1587 ?_
  rw [lw_at1 hi hL]
  have hk4 := hM.1
  have hM := hM.2
  refine x_ci hV (x_runV (As := [.int (xs (i + 1))]) (rest := [.int r3]) C hV mi_X11_trace wl_L_187 hk4 (c_X11_trace hM) ⟨Nat.le_of_ble_eq_true rfl, Nat.le_of_ble_eq_true rfl⟩ rfl hl.1 (Nat.le_of_ble_eq_true rfl) dL_law_1588 ⟨by show cells + 0 + 0 ≤ 600000; omega, by show slots + 0 + 0 ≤ 7302250; omega⟩) (fun r6 S5 H locs hV hM => ?_)
  refine lv_icmp_eq (tgt := 1645) hx hb dL_law_1591 (by decide) (fun _ => ?_) (fun c => absurd hM.1 c)
  have hM := hM.2
  refine W.widen (k := cells + 2) (n := slots + 201) (by show cells + 0 + 0 ≤ _; omega) (by show slots + 0 + 0 ≤ _; omega) ?_
  exact next _ _ _ hM hV
set_option maxHeartbeats 4000000 in
set_option maxRecDepth 100000 in
theorem lz_41 {p : Program} {l : Launch} {e : Env} {s : State} {m : MethodId} {below : List Frame} {meth : Method} {c : Code} {D : DX} {cA : Nat → ClassId} {z0 N b L : Nat} {xs : Nat → Int32} {Q : State → Prop} {cells slots i x mm : Nat} {J : PS → Prop} {S : PS} {H : Heap} {locs : List Loc} {ls : Array Slot} (C : CX p s m #[.ref b] meth c code 4 RL (some .boolean) D cA z0) (hX : va_X b L xs s s.heap) (hbl : b < s.heap.size) (hbA : ¬ zA z0 b) (hi : i + 6 ≤ L) (hL : L ≤ 384) (hcc : cells + 4 ≤ 600000) (hcs : slots + 500 ≤ 7302250) (hV : XV D cA z0 s S H locs) (hl : lv_has ls 4 [(0, .ref b), (1, .ref x), (2, .ref mm), (3, .int (nI i))]) (hM : lc_41 N x mm J S (xs (i + 1)))
    (next : ∀ (S2 : PS) (H2 : Heap) (locs2 : List Loc), J S2 → XV D cA z0 s S2 H2 locs2 → W p l e room_1 s m #[.ref b] below meth c H2 locs2 (cells + 2) (slots + 201) Q (F0 m 1645 ls [])) : W p l e room_1 s m #[.ref b] below meth c H locs cells slots Q (F0 m 1596 ls []) := by
  obtain ⟨hx, hb, hml, hown, hts, hK, hz, hlk, hr⟩ := id C
  unfold lc_41 at hM
  refine lv_aload_n hx hb dL_law_1596 rfl (lv_at hl 1 rfl) ?_
  refine lv_aload_n hx hb dL_law_1597 rfl (lv_at hl 0 rfl) ?_
  refine lv_iload_n hx hb dL_law_1598 rfl (lv_at hl 3 rfl) ?_
  refine lv_iconst (v := 1) hx hb dL_law_1599 (by decide) ?_
  refine lv_iadd hx hb dL_law_1600 ?_
  refine va_sld hx hb hX hbl hbA hV.2 (lw_in1 hi hL) dL_law_1601 ?_
  rw [lw_at1 hi hL]
  have hk1 := hM.1
  have hM := hM.2
  refine x_ci hV (x_runV (As := [.int (xs (i + 1))]) (rest := []) C hV mi_X10_many wl_L_188 hk1 (c_X10_many hM) ⟨Nat.le_of_ble_eq_true rfl, Nat.le_of_ble_eq_true rfl⟩ rfl hl.1 (Nat.le_of_ble_eq_true rfl) dL_law_1602 ⟨by show cells + 0 ≤ 600000; omega, by show slots + 0 ≤ 7302250; omega⟩) (fun r3 S2 H locs hV hM => ?_)
  refine lv_aload_n hx hb dL_law_1605 rfl (lv_at hl 2 rfl) ?_
  refine lv_aload_n hx hb dL_law_1606 rfl (lv_at hl 0 rfl) ?_
  refine lv_iload_n hx hb dL_law_1607 rfl (lv_at hl 3 rfl) ?_
  refine lv_iconst (v := 1) hx hb dL_law_1608 (by decide) ?_
  refine lv_iadd hx hb dL_law_1609 ?_
  refine va_sld hx hb hX hbl hbA hV.2 (lw_in1 hi hL) dL_law_1610 ?_
  rw [lw_at1 hi hL]
  have hk4 := hM.1
  have hM := hM.2
  refine x_ci hV (x_runV (As := [.int (xs (i + 1))]) (rest := [.int r3]) C hV mi_X11_many wl_L_191 hk4 (c_X11_many hM) ⟨Nat.le_of_ble_eq_true rfl, Nat.le_of_ble_eq_true rfl⟩ rfl hl.1 (Nat.le_of_ble_eq_true rfl) dL_law_1611 ⟨by show cells + 0 + 0 ≤ 600000; omega, by show slots + 0 + 0 ≤ 7302250; omega⟩) (fun r6 S5 H locs hV hM => ?_)
  refine lv_icmp_eq (tgt := 1645) hx hb dL_law_1614 (by decide) (fun _ => ?_) (fun c => absurd hM.1 c)
  have hM := hM.2
  refine W.widen (k := cells + 2) (n := slots + 201) (by show cells + 0 + 0 ≤ _; omega) (by show slots + 0 + 0 ≤ _; omega) ?_
  exact next _ _ _ hM hV
set_option maxHeartbeats 4000000 in
set_option maxRecDepth 100000 in
theorem lz_42 {p : Program} {l : Launch} {e : Env} {s : State} {m : MethodId} {below : List Frame} {meth : Method} {c : Code} {D : DX} {cA : Nat → ClassId} {z0 N b L : Nat} {xs : Nat → Int32} {Q : State → Prop} {cells slots i x mm : Nat} {J : PS → Prop} {S : PS} {H : Heap} {locs : List Loc} {ls : Array Slot} (C : CX p s m #[.ref b] meth c code 4 RL (some .boolean) D cA z0) (hX : va_X b L xs s s.heap) (hbl : b < s.heap.size) (hbA : ¬ zA z0 b) (hi : i + 6 ≤ L) (hL : L ≤ 384) (hcc : cells + 4 ≤ 600000) (hcs : slots + 500 ≤ 7302250) (hV : XV D cA z0 s S H locs) (hl : lv_has ls 4 [(0, .ref b), (1, .ref x), (2, .ref mm), (3, .int (nI i))]) (hM : lc_42 N x mm J S)
    (next : ∀ (S2 : PS) (H2 : Heap) (locs2 : List Loc), J S2 → XV D cA z0 s S2 H2 locs2 → W p l e room_1 s m #[.ref b] below meth c H2 locs2 (cells + 2) (slots + 201) Q (F0 m 1645 ls [])) : W p l e room_1 s m #[.ref b] below meth c H locs cells slots Q (F0 m 1619 ls []) := by
  obtain ⟨hx, hb, hml, hown, hts, hK, hz, hlk, hr⟩ := id C
  unfold lc_42 at hM
  refine lv_aload_n hx hb dL_law_1619 rfl (lv_at hl 1 rfl) ?_
  have hk1 := hM.1
  have hM := hM.2
  refine x_ci hV (x_runV (As := []) (rest := []) C hV mi_X10_keep wl_L_192 hk1 (c_X10_keep hM) ⟨Nat.le_of_ble_eq_true rfl, Nat.le_of_ble_eq_true rfl⟩ rfl hl.1 (Nat.le_of_ble_eq_true rfl) dL_law_1620 ⟨by show cells + 0 ≤ 600000; omega, by show slots + 0 ≤ 7302250; omega⟩) (fun r3 S2 H locs hV hM => ?_)
  refine lv_aload_n hx hb dL_law_1623 rfl (lv_at hl 2 rfl) ?_
  have hk4 := hM.1
  have hM := hM.2
  refine x_ci hV (x_runV (As := []) (rest := [.int r3]) C hV mi_X11_keep wl_L_195 hk4 (c_X11_keep hM) ⟨Nat.le_of_ble_eq_true rfl, Nat.le_of_ble_eq_true rfl⟩ rfl hl.1 (Nat.le_of_ble_eq_true rfl) dL_law_1624 ⟨by show cells + 0 + 0 ≤ 600000; omega, by show slots + 0 + 0 ≤ 7302250; omega⟩) (fun r6 S5 H locs hV hM => ?_)
  refine lv_icmp_eq (tgt := 1645) hx hb dL_law_1627 (by decide) (fun _ => ?_) (fun c => absurd hM.1 c)
  have hM := hM.2
  refine W.widen (k := cells + 2) (n := slots + 201) (by show cells + 0 + 0 ≤ _; omega) (by show slots + 0 + 0 ≤ _; omega) ?_
  exact next _ _ _ hM hV
set_option maxHeartbeats 4000000 in
set_option maxRecDepth 100000 in
theorem lz_43 {p : Program} {l : Launch} {e : Env} {s : State} {m : MethodId} {below : List Frame} {meth : Method} {c : Code} {D : DX} {cA : Nat → ClassId} {z0 N b L : Nat} {xs : Nat → Int32} {Q : State → Prop} {cells slots i x mm : Nat} {J : PS → Prop} {S : PS} {H : Heap} {locs : List Loc} {ls : Array Slot} (C : CX p s m #[.ref b] meth c code 4 RL (some .boolean) D cA z0) (hX : va_X b L xs s s.heap) (hbl : b < s.heap.size) (hbA : ¬ zA z0 b) (hi : i + 6 ≤ L) (hL : L ≤ 384) (hcc : cells + 4 ≤ 600000) (hcs : slots + 500 ≤ 7302250) (hV : XV D cA z0 s S H locs) (hl : lv_has ls 4 [(0, .ref b), (1, .ref x), (2, .ref mm), (3, .int (nI i))]) (hM : lc_43 N x mm J S)
    (next : ∀ (S2 : PS) (H2 : Heap) (locs2 : List Loc), J S2 → XV D cA z0 s S2 H2 locs2 → W p l e room_1 s m #[.ref b] below meth c H2 locs2 (cells + 2) (slots + 201) Q (F0 m 1645 ls [])) : W p l e room_1 s m #[.ref b] below meth c H locs cells slots Q (F0 m 1632 ls []) := by
  obtain ⟨hx, hb, hml, hown, hts, hK, hz, hlk, hr⟩ := id C
  unfold lc_43 at hM
  refine lv_aload_n hx hb dL_law_1632 rfl (lv_at hl 1 rfl) ?_
  have hk1 := hM.1
  have hM := hM.2
  refine x_ci hV (x_runV (As := []) (rest := []) C hV mi_X10_back wl_L_196 hk1 (c_X10_back hM) ⟨Nat.le_of_ble_eq_true rfl, Nat.le_of_ble_eq_true rfl⟩ rfl hl.1 (Nat.le_of_ble_eq_true rfl) dL_law_1633 ⟨by show cells + 0 ≤ 600000; omega, by show slots + 0 ≤ 7302250; omega⟩) (fun r3 S2 H locs hV hM => ?_)
  refine lv_aload_n hx hb dL_law_1636 rfl (lv_at hl 2 rfl) ?_
  have hk4 := hM.1
  have hM := hM.2
  refine x_ci hV (x_runV (As := []) (rest := [.int r3]) C hV mi_X11_back wl_L_199 hk4 (c_X11_back hM) ⟨Nat.le_of_ble_eq_true rfl, Nat.le_of_ble_eq_true rfl⟩ rfl hl.1 (Nat.le_of_ble_eq_true rfl) dL_law_1637 ⟨by show cells + 0 + 0 ≤ 600000; omega, by show slots + 0 + 0 ≤ 7302250; omega⟩) (fun r6 S5 H locs hV hM => ?_)
  refine lv_icmp_eq (tgt := 1645) hx hb dL_law_1640 (by decide) (fun _ => ?_) (fun c => absurd hM.1 c)
  have hM := hM.2
  refine W.widen (k := cells + 2) (n := slots + 201) (by show cells + 0 + 0 ≤ _; omega) (by show slots + 0 + 0 ≤ _; omega) ?_
  exact next _ _ _ hM hV
