/-! ===== pure: promises 41, 42: image, restore ===== -/
def fX11_imageT (v_hallNow_chairs : Int32) (v_hallNow_guests : Int32) (v_hallNow_dishes : Int32) (v_hallNow_guestName : Nat → Int64) (v_hallNow_coins : Nat → Int32) (v_hallNow_pride : Nat → Int32) (v_hallNow_speed : Nat → Int32) (v_hallNow_place : Nat → Int32) (v_hallNow_payer : Nat → Int32) (v_hallNow_dishName : Nat → Int64) (v_hallNow_cost : Nat → Int32) (v_feast_sitting : Int32) (v_feast_taken : Int32) (v_feast_served : Int32) (v_feast_hidden : Int32) (v_feast_round : Int32) (v_feast_over : Int32) (v_feast_host : Int32) (v_feast_paidInAll : Int32) (v_feast_coins : Nat → Int32) (v_feast_chairOf : Nat → Int32) (v_feast_tired : Nat → Int32) (v_feast_hosted : Nat → Int32) (v_feast_owed : Nat → Int32) (v_feast_paid : Nat → Int32) (v_saying_length : Int32) (v_saying_ones : Int32) (v_saying_step : Nat → Int32) (v_saying_sign : Nat → Int32) (v_saying_value : Nat → Int32) (v_images_e : Nat → Int32 × Int32 × Int32 × Int32 × (Nat → Int64) × (Nat → Int32) × (Nat → Int32) × (Nat → Int32) × (Nat → Int32) × (Nat → Int32) × (Nat → Int64) × (Nat → Int32) × Int32 × Int32 × Int32 × Int32 × Int32 × Int32 × Int32 × Int32 × Int32 × (Nat → Int32) × (Nat → Int32) × (Nat → Int32) × (Nat → Int32) × (Nat → Int32) × (Nat → Int32) × Int32 × Int32 × (Nat → Int32) × (Nat → Int32) × (Nat → Int32) × (Nat → Int32)) (x1 : Int32) : Option (Int32 × (Nat → Int32 × Int32 × Int32 × Int32 × (Nat → Int64) × (Nat → Int32) × (Nat → Int32) × (Nat → Int32) × (Nat → Int32) × (Nat → Int32) × (Nat → Int64) × (Nat → Int32) × Int32 × Int32 × Int32 × Int32 × Int32 × Int32 × Int32 × Int32 × Int32 × (Nat → Int32) × (Nat → Int32) × (Nat → Int32) × (Nat → Int32) × (Nat → Int32) × (Nat → Int32) × Int32 × Int32 × (Nat → Int32) × (Nat → Int32) × (Nat → Int32) × (Nat → Int32))) := if x1 < 0 then some (0, v_images_e) else if x1 ≤ 1 then if x1 = 0 then (fX2_copyFrom v_hallNow_chairs v_hallNow_guests v_hallNow_dishes v_hallNow_guestName v_hallNow_coins v_hallNow_pride v_hallNow_speed v_hallNow_place v_hallNow_payer v_hallNow_dishName v_hallNow_cost ((v_images_e 0).2.1) ((v_images_e 0).2.2.1) ((v_images_e 0).2.2.2.1) ((v_images_e 0).2.2.2.2.1) ((v_images_e 0).2.2.2.2.2.1) ((v_images_e 0).2.2.2.2.2.2.1) ((v_images_e 0).2.2.2.2.2.2.2.1) ((v_images_e 0).2.2.2.2.2.2.2.2.1) ((v_images_e 0).2.2.2.2.2.2.2.2.2.1) ((v_images_e 0).2.2.2.2.2.2.2.2.2.2.1) ((v_images_e 0).2.2.2.2.2.2.2.2.2.2.2.1)).bind (fun (u1_images_e_hall_chairs, u1_images_e_hall_guests, u1_images_e_hall_dishes, u1_images_e_hall_guestName, u1_images_e_hall_coins, u1_images_e_hall_pride, u1_images_e_hall_speed, u1_images_e_hall_place, u1_images_e_hall_payer, u1_images_e_hall_dishName, u1_images_e_hall_cost) => (fX1_copyFrom v_feast_sitting v_feast_taken v_feast_served v_feast_hidden v_feast_round v_feast_over v_feast_host v_feast_paidInAll v_feast_coins v_feast_chairOf v_feast_tired v_feast_hosted v_feast_owed v_feast_paid ((v_images_e 0).2.2.2.2.2.2.2.2.2.2.2.2.1) ((v_images_e 0).2.2.2.2.2.2.2.2.2.2.2.2.2.1) ((v_images_e 0).2.2.2.2.2.2.2.2.2.2.2.2.2.2.1) ((v_images_e 0).2.2.2.2.2.2.2.2.2.2.2.2.2.2.2.1) ((v_images_e 0).2.2.2.2.2.2.2.2.2.2.2.2.2.2.2.2.1) ((v_images_e 0).2.2.2.2.2.2.2.2.2.2.2.2.2.2.2.2.2.1) ((v_images_e 0).2.2.2.2.2.2.2.2.2.2.2.2.2.2.2.2.2.2.1) ((v_images_e 0).2.2.2.2.2.2.2.2.2.2.2.2.2.2.2.2.2.2.2.1) ((v_images_e 0).2.2.2.2.2.2.2.2.2.2.2.2.2.2.2.2.2.2.2.2.2.1) ((v_images_e 0).2.2.2.2.2.2.2.2.2.2.2.2.2.2.2.2.2.2.2.2.2.2.1) ((v_images_e 0).2.2.2.2.2.2.2.2.2.2.2.2.2.2.2.2.2.2.2.2.2.2.2.1) ((v_images_e 0).2.2.2.2.2.2.2.2.2.2.2.2.2.2.2.2.2.2.2.2.2.2.2.2.1) ((v_images_e 0).2.2.2.2.2.2.2.2.2.2.2.2.2.2.2.2.2.2.2.2.2.2.2.2.2.1) ((v_images_e 0).2.2.2.2.2.2.2.2.2.2.2.2.2.2.2.2.2.2.2.2.2.2.2.2.2.2.1)).bind (fun (u2_images_e_feast_sitting, u2_images_e_feast_taken, u2_images_e_feast_served, u2_images_e_feast_hidden, u2_images_e_feast_round, u2_images_e_feast_over, u2_images_e_feast_host, u2_images_e_feast_paidInAll, u2_images_e_feast_coins, u2_images_e_feast_chairOf, u2_images_e_feast_tired, u2_images_e_feast_hosted, u2_images_e_feast_owed, u2_images_e_feast_paid) => (fX7_copyFrom v_saying_length v_saying_ones v_saying_step v_saying_sign v_saying_value ((v_images_e 0).2.2.2.2.2.2.2.2.2.2.2.2.2.2.2.2.2.2.2.2.2.2.2.2.2.2.2.1) ((v_images_e 0).2.2.2.2.2.2.2.2.2.2.2.2.2.2.2.2.2.2.2.2.2.2.2.2.2.2.2.2.1) ((v_images_e 0).2.2.2.2.2.2.2.2.2.2.2.2.2.2.2.2.2.2.2.2.2.2.2.2.2.2.2.2.2.1) ((v_images_e 0).2.2.2.2.2.2.2.2.2.2.2.2.2.2.2.2.2.2.2.2.2.2.2.2.2.2.2.2.2.2.1) ((v_images_e 0).2.2.2.2.2.2.2.2.2.2.2.2.2.2.2.2.2.2.2.2.2.2.2.2.2.2.2.2.2.2.2.1)).bind (fun (u3_images_e_saying_length, u3_images_e_saying_ones, u3_images_e_saying_step, u3_images_e_saying_sign, u3_images_e_saying_value) => some (1, (updE (updE (updE (updE v_images_e 0 ((v_images_e 0).1, u1_images_e_hall_chairs, u1_images_e_hall_guests, u1_images_e_hall_dishes, u1_images_e_hall_guestName, u1_images_e_hall_coins, u1_images_e_hall_pride, u1_images_e_hall_speed, u1_images_e_hall_place, u1_images_e_hall_payer, u1_images_e_hall_dishName, u1_images_e_hall_cost, (v_images_e 0).2.2.2.2.2.2.2.2.2.2.2.2.1, (v_images_e 0).2.2.2.2.2.2.2.2.2.2.2.2.2.1, (v_images_e 0).2.2.2.2.2.2.2.2.2.2.2.2.2.2.1, (v_images_e 0).2.2.2.2.2.2.2.2.2.2.2.2.2.2.2.1, (v_images_e 0).2.2.2.2.2.2.2.2.2.2.2.2.2.2.2.2.1, (v_images_e 0).2.2.2.2.2.2.2.2.2.2.2.2.2.2.2.2.2.1, (v_images_e 0).2.2.2.2.2.2.2.2.2.2.2.2.2.2.2.2.2.2.1, (v_images_e 0).2.2.2.2.2.2.2.2.2.2.2.2.2.2.2.2.2.2.2.1, (v_images_e 0).2.2.2.2.2.2.2.2.2.2.2.2.2.2.2.2.2.2.2.2.1, (v_images_e 0).2.2.2.2.2.2.2.2.2.2.2.2.2.2.2.2.2.2.2.2.2.1, (v_images_e 0).2.2.2.2.2.2.2.2.2.2.2.2.2.2.2.2.2.2.2.2.2.2.1, (v_images_e 0).2.2.2.2.2.2.2.2.2.2.2.2.2.2.2.2.2.2.2.2.2.2.2.1, (v_images_e 0).2.2.2.2.2.2.2.2.2.2.2.2.2.2.2.2.2.2.2.2.2.2.2.2.1, (v_images_e 0).2.2.2.2.2.2.2.2.2.2.2.2.2.2.2.2.2.2.2.2.2.2.2.2.2.1, (v_images_e 0).2.2.2.2.2.2.2.2.2.2.2.2.2.2.2.2.2.2.2.2.2.2.2.2.2.2.1, (v_images_e 0).2.2.2.2.2.2.2.2.2.2.2.2.2.2.2.2.2.2.2.2.2.2.2.2.2.2.2.1, (v_images_e 0).2.2.2.2.2.2.2.2.2.2.2.2.2.2.2.2.2.2.2.2.2.2.2.2.2.2.2.2.1, (v_images_e 0).2.2.2.2.2.2.2.2.2.2.2.2.2.2.2.2.2.2.2.2.2.2.2.2.2.2.2.2.2.1, (v_images_e 0).2.2.2.2.2.2.2.2.2.2.2.2.2.2.2.2.2.2.2.2.2.2.2.2.2.2.2.2.2.2.1, (v_images_e 0).2.2.2.2.2.2.2.2.2.2.2.2.2.2.2.2.2.2.2.2.2.2.2.2.2.2.2.2.2.2.2.1, (v_images_e 0).2.2.2.2.2.2.2.2.2.2.2.2.2.2.2.2.2.2.2.2.2.2.2.2.2.2.2.2.2.2.2.2)) 0 ((v_images_e 0).1, u1_images_e_hall_chairs, u1_images_e_hall_guests, u1_images_e_hall_dishes, u1_images_e_hall_guestName, u1_images_e_hall_coins, u1_images_e_hall_pride, u1_images_e_hall_speed, u1_images_e_hall_place, u1_images_e_hall_payer, u1_images_e_hall_dishName, u1_images_e_hall_cost, u2_images_e_feast_sitting, u2_images_e_feast_taken, u2_images_e_feast_served, u2_images_e_feast_hidden, u2_images_e_feast_round, u2_images_e_feast_over, u2_images_e_feast_host, u2_images_e_feast_paidInAll, (v_images_e 0).2.2.2.2.2.2.2.2.2.2.2.2.2.2.2.2.2.2.2.2.1, u2_images_e_feast_coins, u2_images_e_feast_chairOf, u2_images_e_feast_tired, u2_images_e_feast_hosted, u2_images_e_feast_owed, u2_images_e_feast_paid, (v_images_e 0).2.2.2.2.2.2.2.2.2.2.2.2.2.2.2.2.2.2.2.2.2.2.2.2.2.2.2.1, (v_images_e 0).2.2.2.2.2.2.2.2.2.2.2.2.2.2.2.2.2.2.2.2.2.2.2.2.2.2.2.2.1, (v_images_e 0).2.2.2.2.2.2.2.2.2.2.2.2.2.2.2.2.2.2.2.2.2.2.2.2.2.2.2.2.2.1, (v_images_e 0).2.2.2.2.2.2.2.2.2.2.2.2.2.2.2.2.2.2.2.2.2.2.2.2.2.2.2.2.2.2.1, (v_images_e 0).2.2.2.2.2.2.2.2.2.2.2.2.2.2.2.2.2.2.2.2.2.2.2.2.2.2.2.2.2.2.2.1, (v_images_e 0).2.2.2.2.2.2.2.2.2.2.2.2.2.2.2.2.2.2.2.2.2.2.2.2.2.2.2.2.2.2.2.2)) 0 ((v_images_e 0).1, u1_images_e_hall_chairs, u1_images_e_hall_guests, u1_images_e_hall_dishes, u1_images_e_hall_guestName, u1_images_e_hall_coins, u1_images_e_hall_pride, u1_images_e_hall_speed, u1_images_e_hall_place, u1_images_e_hall_payer, u1_images_e_hall_dishName, u1_images_e_hall_cost, u2_images_e_feast_sitting, u2_images_e_feast_taken, u2_images_e_feast_served, u2_images_e_feast_hidden, u2_images_e_feast_round, u2_images_e_feast_over, u2_images_e_feast_host, u2_images_e_feast_paidInAll, (v_images_e 0).2.2.2.2.2.2.2.2.2.2.2.2.2.2.2.2.2.2.2.2.1, u2_images_e_feast_coins, u2_images_e_feast_chairOf, u2_images_e_feast_tired, u2_images_e_feast_hosted, u2_images_e_feast_owed, u2_images_e_feast_paid, u3_images_e_saying_length, u3_images_e_saying_ones, u3_images_e_saying_step, u3_images_e_saying_sign, u3_images_e_saying_value, (v_images_e 0).2.2.2.2.2.2.2.2.2.2.2.2.2.2.2.2.2.2.2.2.2.2.2.2.2.2.2.2.2.2.2.2)) 0 (1, u1_images_e_hall_chairs, u1_images_e_hall_guests, u1_images_e_hall_dishes, u1_images_e_hall_guestName, u1_images_e_hall_coins, u1_images_e_hall_pride, u1_images_e_hall_speed, u1_images_e_hall_place, u1_images_e_hall_payer, u1_images_e_hall_dishName, u1_images_e_hall_cost, u2_images_e_feast_sitting, u2_images_e_feast_taken, u2_images_e_feast_served, u2_images_e_feast_hidden, u2_images_e_feast_round, u2_images_e_feast_over, u2_images_e_feast_host, u2_images_e_feast_paidInAll, (v_images_e 0).2.2.2.2.2.2.2.2.2.2.2.2.2.2.2.2.2.2.2.2.1, u2_images_e_feast_coins, u2_images_e_feast_chairOf, u2_images_e_feast_tired, u2_images_e_feast_hosted, u2_images_e_feast_owed, u2_images_e_feast_paid, u3_images_e_saying_length, u3_images_e_saying_ones, u3_images_e_saying_step, u3_images_e_saying_sign, u3_images_e_saying_value, (v_images_e 0).2.2.2.2.2.2.2.2.2.2.2.2.2.2.2.2.2.2.2.2.2.2.2.2.2.2.2.2.2.2.2.2)))))) else if x1 = 1 then (fX2_copyFrom v_hallNow_chairs v_hallNow_guests v_hallNow_dishes v_hallNow_guestName v_hallNow_coins v_hallNow_pride v_hallNow_speed v_hallNow_place v_hallNow_payer v_hallNow_dishName v_hallNow_cost ((v_images_e 1).2.1) ((v_images_e 1).2.2.1) ((v_images_e 1).2.2.2.1) ((v_images_e 1).2.2.2.2.1) ((v_images_e 1).2.2.2.2.2.1) ((v_images_e 1).2.2.2.2.2.2.1) ((v_images_e 1).2.2.2.2.2.2.2.1) ((v_images_e 1).2.2.2.2.2.2.2.2.1) ((v_images_e 1).2.2.2.2.2.2.2.2.2.1) ((v_images_e 1).2.2.2.2.2.2.2.2.2.2.1) ((v_images_e 1).2.2.2.2.2.2.2.2.2.2.2.1)).bind (fun (u4_images_e_hall_chairs, u4_images_e_hall_guests, u4_images_e_hall_dishes, u4_images_e_hall_guestName, u4_images_e_hall_coins, u4_images_e_hall_pride, u4_images_e_hall_speed, u4_images_e_hall_place, u4_images_e_hall_payer, u4_images_e_hall_dishName, u4_images_e_hall_cost) => (fX1_copyFrom v_feast_sitting v_feast_taken v_feast_served v_feast_hidden v_feast_round v_feast_over v_feast_host v_feast_paidInAll v_feast_coins v_feast_chairOf v_feast_tired v_feast_hosted v_feast_owed v_feast_paid ((v_images_e 1).2.2.2.2.2.2.2.2.2.2.2.2.1) ((v_images_e 1).2.2.2.2.2.2.2.2.2.2.2.2.2.1) ((v_images_e 1).2.2.2.2.2.2.2.2.2.2.2.2.2.2.1) ((v_images_e 1).2.2.2.2.2.2.2.2.2.2.2.2.2.2.2.1) ((v_images_e 1).2.2.2.2.2.2.2.2.2.2.2.2.2.2.2.2.1) ((v_images_e 1).2.2.2.2.2.2.2.2.2.2.2.2.2.2.2.2.2.1) ((v_images_e 1).2.2.2.2.2.2.2.2.2.2.2.2.2.2.2.2.2.2.1) ((v_images_e 1).2.2.2.2.2.2.2.2.2.2.2.2.2.2.2.2.2.2.2.1) ((v_images_e 1).2.2.2.2.2.2.2.2.2.2.2.2.2.2.2.2.2.2.2.2.2.1) ((v_images_e 1).2.2.2.2.2.2.2.2.2.2.2.2.2.2.2.2.2.2.2.2.2.2.1) ((v_images_e 1).2.2.2.2.2.2.2.2.2.2.2.2.2.2.2.2.2.2.2.2.2.2.2.1) ((v_images_e 1).2.2.2.2.2.2.2.2.2.2.2.2.2.2.2.2.2.2.2.2.2.2.2.2.1) ((v_images_e 1).2.2.2.2.2.2.2.2.2.2.2.2.2.2.2.2.2.2.2.2.2.2.2.2.2.1) ((v_images_e 1).2.2.2.2.2.2.2.2.2.2.2.2.2.2.2.2.2.2.2.2.2.2.2.2.2.2.1)).bind (fun (u5_images_e_feast_sitting, u5_images_e_feast_taken, u5_images_e_feast_served, u5_images_e_feast_hidden, u5_images_e_feast_round, u5_images_e_feast_over, u5_images_e_feast_host, u5_images_e_feast_paidInAll, u5_images_e_feast_coins, u5_images_e_feast_chairOf, u5_images_e_feast_tired, u5_images_e_feast_hosted, u5_images_e_feast_owed, u5_images_e_feast_paid) => (fX7_copyFrom v_saying_length v_saying_ones v_saying_step v_saying_sign v_saying_value ((v_images_e 1).2.2.2.2.2.2.2.2.2.2.2.2.2.2.2.2.2.2.2.2.2.2.2.2.2.2.2.1) ((v_images_e 1).2.2.2.2.2.2.2.2.2.2.2.2.2.2.2.2.2.2.2.2.2.2.2.2.2.2.2.2.1) ((v_images_e 1).2.2.2.2.2.2.2.2.2.2.2.2.2.2.2.2.2.2.2.2.2.2.2.2.2.2.2.2.2.1) ((v_images_e 1).2.2.2.2.2.2.2.2.2.2.2.2.2.2.2.2.2.2.2.2.2.2.2.2.2.2.2.2.2.2.1) ((v_images_e 1).2.2.2.2.2.2.2.2.2.2.2.2.2.2.2.2.2.2.2.2.2.2.2.2.2.2.2.2.2.2.2.1)).bind (fun (u6_images_e_saying_length, u6_images_e_saying_ones, u6_images_e_saying_step, u6_images_e_saying_sign, u6_images_e_saying_value) => some (1, (updE (updE (updE (updE v_images_e 1 ((v_images_e 1).1, u4_images_e_hall_chairs, u4_images_e_hall_guests, u4_images_e_hall_dishes, u4_images_e_hall_guestName, u4_images_e_hall_coins, u4_images_e_hall_pride, u4_images_e_hall_speed, u4_images_e_hall_place, u4_images_e_hall_payer, u4_images_e_hall_dishName, u4_images_e_hall_cost, (v_images_e 1).2.2.2.2.2.2.2.2.2.2.2.2.1, (v_images_e 1).2.2.2.2.2.2.2.2.2.2.2.2.2.1, (v_images_e 1).2.2.2.2.2.2.2.2.2.2.2.2.2.2.1, (v_images_e 1).2.2.2.2.2.2.2.2.2.2.2.2.2.2.2.1, (v_images_e 1).2.2.2.2.2.2.2.2.2.2.2.2.2.2.2.2.1, (v_images_e 1).2.2.2.2.2.2.2.2.2.2.2.2.2.2.2.2.2.1, (v_images_e 1).2.2.2.2.2.2.2.2.2.2.2.2.2.2.2.2.2.2.1, (v_images_e 1).2.2.2.2.2.2.2.2.2.2.2.2.2.2.2.2.2.2.2.1, (v_images_e 1).2.2.2.2.2.2.2.2.2.2.2.2.2.2.2.2.2.2.2.2.1, (v_images_e 1).2.2.2.2.2.2.2.2.2.2.2.2.2.2.2.2.2.2.2.2.2.1, (v_images_e 1).2.2.2.2.2.2.2.2.2.2.2.2.2.2.2.2.2.2.2.2.2.2.1, (v_images_e 1).2.2.2.2.2.2.2.2.2.2.2.2.2.2.2.2.2.2.2.2.2.2.2.1, (v_images_e 1).2.2.2.2.2.2.2.2.2.2.2.2.2.2.2.2.2.2.2.2.2.2.2.2.1, (v_images_e 1).2.2.2.2.2.2.2.2.2.2.2.2.2.2.2.2.2.2.2.2.2.2.2.2.2.1, (v_images_e 1).2.2.2.2.2.2.2.2.2.2.2.2.2.2.2.2.2.2.2.2.2.2.2.2.2.2.1, (v_images_e 1).2.2.2.2.2.2.2.2.2.2.2.2.2.2.2.2.2.2.2.2.2.2.2.2.2.2.2.1, (v_images_e 1).2.2.2.2.2.2.2.2.2.2.2.2.2.2.2.2.2.2.2.2.2.2.2.2.2.2.2.2.1, (v_images_e 1).2.2.2.2.2.2.2.2.2.2.2.2.2.2.2.2.2.2.2.2.2.2.2.2.2.2.2.2.2.1, (v_images_e 1).2.2.2.2.2.2.2.2.2.2.2.2.2.2.2.2.2.2.2.2.2.2.2.2.2.2.2.2.2.2.1, (v_images_e 1).2.2.2.2.2.2.2.2.2.2.2.2.2.2.2.2.2.2.2.2.2.2.2.2.2.2.2.2.2.2.2.1, (v_images_e 1).2.2.2.2.2.2.2.2.2.2.2.2.2.2.2.2.2.2.2.2.2.2.2.2.2.2.2.2.2.2.2.2)) 1 ((v_images_e 1).1, u4_images_e_hall_chairs, u4_images_e_hall_guests, u4_images_e_hall_dishes, u4_images_e_hall_guestName, u4_images_e_hall_coins, u4_images_e_hall_pride, u4_images_e_hall_speed, u4_images_e_hall_place, u4_images_e_hall_payer, u4_images_e_hall_dishName, u4_images_e_hall_cost, u5_images_e_feast_sitting, u5_images_e_feast_taken, u5_images_e_feast_served, u5_images_e_feast_hidden, u5_images_e_feast_round, u5_images_e_feast_over, u5_images_e_feast_host, u5_images_e_feast_paidInAll, (v_images_e 1).2.2.2.2.2.2.2.2.2.2.2.2.2.2.2.2.2.2.2.2.1, u5_images_e_feast_coins, u5_images_e_feast_chairOf, u5_images_e_feast_tired, u5_images_e_feast_hosted, u5_images_e_feast_owed, u5_images_e_feast_paid, (v_images_e 1).2.2.2.2.2.2.2.2.2.2.2.2.2.2.2.2.2.2.2.2.2.2.2.2.2.2.2.1, (v_images_e 1).2.2.2.2.2.2.2.2.2.2.2.2.2.2.2.2.2.2.2.2.2.2.2.2.2.2.2.2.1, (v_images_e 1).2.2.2.2.2.2.2.2.2.2.2.2.2.2.2.2.2.2.2.2.2.2.2.2.2.2.2.2.2.1, (v_images_e 1).2.2.2.2.2.2.2.2.2.2.2.2.2.2.2.2.2.2.2.2.2.2.2.2.2.2.2.2.2.2.1, (v_images_e 1).2.2.2.2.2.2.2.2.2.2.2.2.2.2.2.2.2.2.2.2.2.2.2.2.2.2.2.2.2.2.2.1, (v_images_e 1).2.2.2.2.2.2.2.2.2.2.2.2.2.2.2.2.2.2.2.2.2.2.2.2.2.2.2.2.2.2.2.2)) 1 ((v_images_e 1).1, u4_images_e_hall_chairs, u4_images_e_hall_guests, u4_images_e_hall_dishes, u4_images_e_hall_guestName, u4_images_e_hall_coins, u4_images_e_hall_pride, u4_images_e_hall_speed, u4_images_e_hall_place, u4_images_e_hall_payer, u4_images_e_hall_dishName, u4_images_e_hall_cost, u5_images_e_feast_sitting, u5_images_e_feast_taken, u5_images_e_feast_served, u5_images_e_feast_hidden, u5_images_e_feast_round, u5_images_e_feast_over, u5_images_e_feast_host, u5_images_e_feast_paidInAll, (v_images_e 1).2.2.2.2.2.2.2.2.2.2.2.2.2.2.2.2.2.2.2.2.1, u5_images_e_feast_coins, u5_images_e_feast_chairOf, u5_images_e_feast_tired, u5_images_e_feast_hosted, u5_images_e_feast_owed, u5_images_e_feast_paid, u6_images_e_saying_length, u6_images_e_saying_ones, u6_images_e_saying_step, u6_images_e_saying_sign, u6_images_e_saying_value, (v_images_e 1).2.2.2.2.2.2.2.2.2.2.2.2.2.2.2.2.2.2.2.2.2.2.2.2.2.2.2.2.2.2.2.2)) 1 (1, u4_images_e_hall_chairs, u4_images_e_hall_guests, u4_images_e_hall_dishes, u4_images_e_hall_guestName, u4_images_e_hall_coins, u4_images_e_hall_pride, u4_images_e_hall_speed, u4_images_e_hall_place, u4_images_e_hall_payer, u4_images_e_hall_dishName, u4_images_e_hall_cost, u5_images_e_feast_sitting, u5_images_e_feast_taken, u5_images_e_feast_served, u5_images_e_feast_hidden, u5_images_e_feast_round, u5_images_e_feast_over, u5_images_e_feast_host, u5_images_e_feast_paidInAll, (v_images_e 1).2.2.2.2.2.2.2.2.2.2.2.2.2.2.2.2.2.2.2.2.1, u5_images_e_feast_coins, u5_images_e_feast_chairOf, u5_images_e_feast_tired, u5_images_e_feast_hosted, u5_images_e_feast_owed, u5_images_e_feast_paid, u6_images_e_saying_length, u6_images_e_saying_ones, u6_images_e_saying_step, u6_images_e_saying_sign, u6_images_e_saying_value, (v_images_e 1).2.2.2.2.2.2.2.2.2.2.2.2.2.2.2.2.2.2.2.2.2.2.2.2.2.2.2.2.2.2.2.2)))))) else none else some (0, v_images_e)
abbrev IE : Type := Int32 × Int32 × Int32 × Int32 × (Nat → Int64) × A1 × A1 × A1 × A1 × A1 × (Nat → Int64) × A1 × Int32 × Int32 × Int32 × Int32 × Int32 × Int32 × Int32 × Int32 × Int32 × A1 × A1 × A1 × A1 × A1 × A1 × Int32 × Int32 × A1 × A1 × A1 × A1
theorem updE_updE {α : Type} {f : Nat → α} {k : Nat} {x y : α} : updE (updE f k x) k y = updE f k y := by
  funext j
  unfold updE
  by_cases h : j = k
  · rw [if_pos h, if_pos h]
  · rw [if_neg h, if_neg h, if_neg h]
theorem RH_cpy {C G D : Nat} {pride speed payer cost s a b c d : A1} (h : RH C G D pride speed payer cost s) : RH C G D (va_cpy pride a 0 0 7) (va_cpy speed b 0 0 7) (va_cpy payer c 0 0 7) (va_cpy cost d 0 0 6) s := by
  obtain ⟨h1, h2, h3, h4⟩ := h
  refine ⟨h1, h2, fun g hg => ?_, fun g hg => ?_⟩
  · rw [cpyG (by omega), cpyG (by omega), cpyG (by omega)]
    exact h3 g hg
  · rw [cpyG (by omega)]
    exact h4 g hg
theorem RNm_cpy {G fr m : Nat} {gn gn0 nm : Nat → Int64} (hG : G ≤ m) (h : RNm G fr gn nm) : RNm G fr (va_cpy gn gn0 0 0 m) nm := fun g hg => by
  rw [cpyG (by omega)]
  exact h g hg
theorem RSy_cpy {G : Nat} {sl : Int32} {st sg va s a b c : A1} (h : RSy G sl st sg va s) : RSy G sl (va_cpy st a 0 0 40) (va_cpy sg b 0 0 40) (va_cpy va c 0 0 40) s := by
  obtain ⟨L, h1, h2, h3, h4, h5, h6⟩ := h
  have hcp : ∀ (f g : A1) (i : Nat), i < L → va_cpy f g 0 0 40 i = f i := fun f g i hi => cpyG (by omega)
  refine ⟨L, h1, h2, h3, ?_, WFs_congr (hcp st a) h5, fun i hi => ?_⟩
  · rw [hg_congr (hcp st a)]
    exact h4
  · rw [hcp _ _ i hi, hcp _ _ i hi, hcp _ _ i hi]
    exact h6 i hi
theorem RSy_cs {G : Nat} {sl : Int32} {st sg va s s' : A1} (h : RSy G sl st sg va s) (he : ∀ i, 92 ≤ i → i < 273 → s' i = s i) : RSy G sl st sg va s' := by
  obtain ⟨L, h1, h2, h3, h4, h5, h6⟩ := h
  refine ⟨L, h1, h2, ?_, h4, h5, fun i hi => ?_⟩
  · rw [he 92 (by omega) (by omega), h3]
  · rw [he _ (by omega) (by omega), he _ (by omega) (by omega), he _ (by omega) (by omega)]
    exact h6 i hi
theorem RNm_cs {G fr : Nat} {gn nm nm' : Nat → Int64} (h : RNm G fr gn nm) (he : ∀ i, i < fr + G → nm' i = nm i) : RNm G fr gn nm' := fun g hg => by
  rw [he _ (by omega)]
  exact h g hg
/-- what an image keeps, both -/
def RIe (e : IE) (s : A1) (nm : Nat → Int64) : Prop := ∃ C G D, RHl C G D (e.2.1) (e.2.2.1) (e.2.2.2.1) (e.2.2.2.2.1) (e.2.2.2.2.2.2.1) (e.2.2.2.2.2.2.2.1) (e.2.2.2.2.2.2.2.2.2.1) (e.2.2.2.2.2.2.2.2.2.2.1) (e.2.2.2.2.2.2.2.2.2.2.2.1) s nm ∧ RFp C G D (e.2.2.2.2.2.2.2.2.2.2.2.2.1) (e.2.2.2.2.2.2.2.2.2.2.2.2.2.1) (e.2.2.2.2.2.2.2.2.2.2.2.2.2.2.1) (e.2.2.2.2.2.2.2.2.2.2.2.2.2.2.2.1) (e.2.2.2.2.2.2.2.2.2.2.2.2.2.2.2.2.1) (e.2.2.2.2.2.2.2.2.2.2.2.2.2.2.2.2.2.1) (e.2.2.2.2.2.2.2.2.2.2.2.2.2.2.2.2.2.2.1) (e.2.2.2.2.2.2.2.2.2.2.2.2.2.2.2.2.2.2.2.1) (e.2.2.2.2.2.2.2.2.2.2.2.2.2.2.2.2.2.2.2.2.2.1) (e.2.2.2.2.2.2.2.2.2.2.2.2.2.2.2.2.2.2.2.2.2.2.1) (e.2.2.2.2.2.2.2.2.2.2.2.2.2.2.2.2.2.2.2.2.2.2.2.1) (e.2.2.2.2.2.2.2.2.2.2.2.2.2.2.2.2.2.2.2.2.2.2.2.2.1) (e.2.2.2.2.2.2.2.2.2.2.2.2.2.2.2.2.2.2.2.2.2.2.2.2.2.1) (e.2.2.2.2.2.2.2.2.2.2.2.2.2.2.2.2.2.2.2.2.2.2.2.2.2.2.1) s ∧ RSy G (e.2.2.2.2.2.2.2.2.2.2.2.2.2.2.2.2.2.2.2.2.2.2.2.2.2.2.2.1) (e.2.2.2.2.2.2.2.2.2.2.2.2.2.2.2.2.2.2.2.2.2.2.2.2.2.2.2.2.2.1) (e.2.2.2.2.2.2.2.2.2.2.2.2.2.2.2.2.2.2.2.2.2.2.2.2.2.2.2.2.2.2.1) (e.2.2.2.2.2.2.2.2.2.2.2.2.2.2.2.2.2.2.2.2.2.2.2.2.2.2.2.2.2.2.2.1) s
theorem RIe_cs {e : IE} {s s' : A1} {nm nm' : Nat → Int64} (h : RIe e s nm) (h1 : ∀ i, i < 273 → s' i = s i) (h2 : ∀ i, i < 13 → nm' i = nm i) : RIe e s' nm' := by
  obtain ⟨C, G, D, ⟨a1, a2, a3, hH, n1, n2⟩, hF, hY⟩ := h
  have hG := hH.1.2.2.1
  have hD := hH.1.2.2.2.2
  exact ⟨C, G, D, ⟨a1, a2, a3, hH.congr (fun i hi => h1 i (by omega)), RNm_cs n1 (fun i hi => h2 i (by omega)), RNm_cs n2 (fun i hi => h2 i (by omega))⟩, ⟨hF.1, hF.2.1, RF_cs hG hF.2.2 (fun i _ hi => h1 i (by omega))⟩, RSy_cs hY (fun i _ hi => h1 i hi)⟩
def RIm (ie : Nat → IE) (im : A1) (nk : Nat → Int64) (ak : A1) : Prop := ∀ k, k < 2 → (ak k = 0 ∧ (ie k).1 = 0) ∨ (ak k = 1 ∧ (ie k).1 = 1 ∧ RIe (ie k) (fun i => im (273 * k + i)) (fun i => nk (13 * k + i)))
theorem image51 {k : Nat} (hk : k < 2) (s : A1) (nm : Nat → Int64) (im ak : A1) : ∀ (m j n : Nat), j + m = 13 → m < n → ∀ nk : Nat → Int64, (∀ i, i < j → nk (13 * k + i) = nm i) → ∃ nk', lX12_image_51 s nm n 0 im nk ak (nI k) (nI j) = some (1, 0, im, nk', upd ak k 1) ∧ (∀ i, i < 13 → nk' (13 * k + i) = nm i) ∧ ∀ i, (i < 13 * k ∨ 13 * k + 13 ≤ i) → nk' i = nk i := by
  have e13 : (13 : Int32) * nI k = nI (13 * k) := pk_mul 13 k
  intro m
  induction m with
  | zero =>
    intro j n hj hn nk h
    obtain ⟨n, rfl⟩ := sn hn
    refine ⟨nk, ?_, fun i hi => h i (by omega), fun _ _ => rfl⟩
    rw [lX12_image_51, if_pos (show (13 : Int32) ≤ nI j from nI_le (a := 13) (by omega) (by omega)), gI_ok hk (by omega), nmv_eq, ix0 (by omega), nar1]
  | succ m ih =>
    intro j n hj hn nk h
    obtain ⟨n, rfl⟩ := sn hn
    obtain ⟨nk', y1, y2, y3⟩ := ih (j + 1) n (by omega) (by omega) (vp_updL nk (13 * k + j) (nm j)) (fun i hi => by
      by_cases e : i = j
      · rw [e, pk_uLs]
      · rw [pk_uLn (by omega), h i (by omega)])
    refine ⟨nk', ?_, y2, fun i hi => by rw [y3 i hi, pk_uLn (by omega)]⟩
    rw [lX12_image_51, if_neg (show ¬ (13 : Int32) ≤ nI j from nI_ge (b := 13) (by omega) (by omega)), gI_ok (show j < 26 by omega) (by omega), nmv_eq, e13, nI_add, gI_ok (show 13 * k + j < 26 by omega) (by omega), nmv_eq, ix0 (show j < 1000 by omega), ix0 (show 13 * k + j < 1000 by omega), nI_1]
    exact y1
theorem image18 {k : Nat} (hk : k < 2) (s : A1) (nm : Nat → Int64) (kk : Int32 → A1 → (Nat → Int64) → A1 → Int32 → Int32 → Option (Int32 × Int32 × A1 × (Nat → Int64) × A1)) (nk : Nat → Int64) (ak : A1) : ∀ (m j n : Nat), j + m = 273 → m < n → ∀ im : A1, (∀ i, i < j → im (273 * k + i) = s i) → ∃ im', lX12_image_18 s nm kk n 0 im nk ak (nI k) (nI j) = kk 0 im' nk ak (nI k) 0 ∧ (∀ i, i < 273 → im' (273 * k + i) = s i) ∧ ∀ i, (i < 273 * k ∨ 273 * k + 273 ≤ i) → im' i = im i := by
  have e13 : (273 : Int32) * nI k = nI (273 * k) := pk_mul 273 k
  intro m
  induction m with
  | zero =>
    intro j n hj hn im h
    obtain ⟨n, rfl⟩ := sn hn
    refine ⟨im, ?_, fun i hi => h i (by omega), fun _ _ => rfl⟩
    rw [lX12_image_18, if_pos (show (273 : Int32) ≤ nI j from nI_le (a := 273) (by omega) (by omega))]
  | succ m ih =>
    intro j n hj hn im h
    obtain ⟨n, rfl⟩ := sn hn
    obtain ⟨im', y1, y2, y3⟩ := ih (j + 1) n (by omega) (by omega) (upd im (273 * k + j) (s j)) (fun i hi => by
      by_cases e : i = j
      · rw [e, pk_us]
      · rw [pk_un (by omega), h i (by omega)])
    refine ⟨im', ?_, y2, fun i hi => by rw [y3 i hi, pk_un (by omega)]⟩
    rw [lX12_image_18, if_neg (show ¬ (273 : Int32) ≤ nI j from nI_ge (b := 273) (by omega) (by omega)), gI_ok (show j < 273 by omega) (by omega), nmv_eq, e13, nI_add, gI_ok (show 273 * k + j < 546 by omega) (by omega), nmv_eq, ix0 (show j < 1000 by omega), ix0 (show 273 * k + j < 1000 by omega), nI_1]
    exact y1
theorem restore60 {k : Nat} (hk : k < 2) (im : A1) (nk : Nat → Int64) (ak : A1) (um : Int32) (sv : A1) : ∀ (m j n : Nat), j + m = 13 → m < n → ∀ nm : Nat → Int64, (∀ i, i < j → nm i = nk (13 * k + i)) → ∃ nm', lX12_restore_60 im nk ak n 0 um sv nm (nI k) (nI j) = some (1, 0, 0, sv, nm') ∧ ∀ i, i < 13 → nm' i = nk (13 * k + i) := by
  have e13 : (13 : Int32) * nI k = nI (13 * k) := pk_mul 13 k
  intro m
  induction m with
  | zero =>
    intro j n hj hn nm h
    obtain ⟨n, rfl⟩ := sn hn
    refine ⟨nm, ?_, fun i hi => h i (by omega)⟩
    rw [lX12_restore_60, if_pos (show (13 : Int32) ≤ nI j from nI_le (a := 13) (by omega) (by omega))]
  | succ m ih =>
    intro j n hj hn nm h
    obtain ⟨n, rfl⟩ := sn hn
    obtain ⟨nm', y1, y2⟩ := ih (j + 1) n (by omega) (by omega) (vp_updL nm j (nk (13 * k + j))) (fun i hi => by
      by_cases e : i = j
      · rw [e, pk_uLs]
      · rw [pk_uLn (by omega), h i (by omega)])
    refine ⟨nm', ?_, y2⟩
    rw [lX12_restore_60, if_neg (show ¬ (13 : Int32) ≤ nI j from nI_ge (b := 13) (by omega) (by omega)), e13, nI_add, gI_ok (show 13 * k + j < 26 by omega) (by omega), nmv_eq, gI_ok (show j < 26 by omega) (by omega), nmv_eq, ix0 (show j < 1000 by omega), ix0 (show 13 * k + j < 1000 by omega), nI_1]
    exact y1
theorem restore27 {k : Nat} (hk : k < 2) (im : A1) (nk : Nat → Int64) (ak : A1) (kk : Int32 → Int32 → A1 → (Nat → Int64) → Int32 → Int32 → Option (Int32 × Int32 × Int32 × A1 × (Nat → Int64))) (um : Int32) (nm : Nat → Int64) : ∀ (m j n : Nat), j + m = 273 → m < n → ∀ s : A1, (∀ i, i < j → s i = im (273 * k + i)) → ∃ s', lX12_restore_27 im nk ak kk n 0 um s nm (nI k) (nI j) = kk 0 um s' nm (nI k) 0 ∧ ∀ i, i < 273 → s' i = im (273 * k + i) := by
  have e13 : (273 : Int32) * nI k = nI (273 * k) := pk_mul 273 k
  intro m
  induction m with
  | zero =>
    intro j n hj hn s h
    obtain ⟨n, rfl⟩ := sn hn
    refine ⟨s, ?_, fun i hi => h i (by omega)⟩
    rw [lX12_restore_27, if_pos (show (273 : Int32) ≤ nI j from nI_le (a := 273) (by omega) (by omega))]
  | succ m ih =>
    intro j n hj hn s h
    obtain ⟨n, rfl⟩ := sn hn
    obtain ⟨s', y1, y2⟩ := ih (j + 1) n (by omega) (by omega) (upd s j (im (273 * k + j))) (fun i hi => by
      by_cases e : i = j
      · rw [e, pk_us]
      · rw [pk_un (by omega), h i (by omega)])
    refine ⟨s', ?_, y2⟩
    rw [lX12_restore_27, if_neg (show ¬ (273 : Int32) ≤ nI j from nI_ge (b := 273) (by omega) (by omega)), e13, nI_add, gI_ok (show 273 * k + j < 546 by omega) (by omega), nmv_eq, gI_ok (show j < 273 by omega) (by omega), nmv_eq, ix0 (show j < 1000 by omega), ix0 (show 273 * k + j < 1000 by omega), nI_1]
    exact y1
theorem imgC0 (C G D : Nat) (gn : Nat → Int64) (hco pride speed hpl payer : A1) (dn : Nat → Int64) (cost : A1) (sit tak ser hid rnd ovr hst pia : Int32) (coins chairOf tired hosted owed paid : A1) (sl so : Int32) (st sg va : A1) (ie : Nat → IE) : fX11_imageT (nI C) (nI G) (nI D) gn hco pride speed hpl payer dn cost sit tak ser hid rnd ovr hst pia coins chairOf tired hosted owed paid sl so st sg va ie 0 = some (1, updE ie 0 (1, nI C, nI G, nI D, va_cpy gn (ie 0).2.2.2.2.1 0 0 7, va_cpy hco (ie 0).2.2.2.2.2.1 0 0 7, va_cpy pride (ie 0).2.2.2.2.2.2.1 0 0 7, va_cpy speed (ie 0).2.2.2.2.2.2.2.1 0 0 7, va_cpy hpl (ie 0).2.2.2.2.2.2.2.2.1 0 0 7, va_cpy payer (ie 0).2.2.2.2.2.2.2.2.2.1 0 0 7, va_cpy dn (ie 0).2.2.2.2.2.2.2.2.2.2.1 0 0 6, va_cpy cost (ie 0).2.2.2.2.2.2.2.2.2.2.2.1 0 0 6, sit, tak, ser, hid, rnd, ovr, hst, pia, (ie 0).2.2.2.2.2.2.2.2.2.2.2.2.2.2.2.2.2.2.2.2.1, va_cpy coins (ie 0).2.2.2.2.2.2.2.2.2.2.2.2.2.2.2.2.2.2.2.2.2.1 0 0 7, va_cpy chairOf (ie 0).2.2.2.2.2.2.2.2.2.2.2.2.2.2.2.2.2.2.2.2.2.2.1 0 0 7, va_cpy tired (ie 0).2.2.2.2.2.2.2.2.2.2.2.2.2.2.2.2.2.2.2.2.2.2.2.1 0 0 7, va_cpy hosted (ie 0).2.2.2.2.2.2.2.2.2.2.2.2.2.2.2.2.2.2.2.2.2.2.2.2.1 0 0 7, va_cpy owed (ie 0).2.2.2.2.2.2.2.2.2.2.2.2.2.2.2.2.2.2.2.2.2.2.2.2.2.1 0 0 7, va_cpy paid (ie 0).2.2.2.2.2.2.2.2.2.2.2.2.2.2.2.2.2.2.2.2.2.2.2.2.2.2.1 0 0 7, sl, so, va_cpy st (ie 0).2.2.2.2.2.2.2.2.2.2.2.2.2.2.2.2.2.2.2.2.2.2.2.2.2.2.2.2.2.1 0 0 40, va_cpy sg (ie 0).2.2.2.2.2.2.2.2.2.2.2.2.2.2.2.2.2.2.2.2.2.2.2.2.2.2.2.2.2.2.1 0 0 40, va_cpy va (ie 0).2.2.2.2.2.2.2.2.2.2.2.2.2.2.2.2.2.2.2.2.2.2.2.2.2.2.2.2.2.2.2.1 0 0 40, (ie 0).2.2.2.2.2.2.2.2.2.2.2.2.2.2.2.2.2.2.2.2.2.2.2.2.2.2.2.2.2.2.2.2)) := by
  unfold fX11_imageT fX2_copyFrom fX1_copyFrom fX7_copyFrom
  simp only [bind_eq]
  rw [if_neg (show ¬ (0 : Int32) < 0 by decide), if_pos (show (0 : Int32) ≤ 1 by decide), if_pos True.intro, updE_updE, updE_updE, updE_updE]
theorem imgC1 (C G D : Nat) (gn : Nat → Int64) (hco pride speed hpl payer : A1) (dn : Nat → Int64) (cost : A1) (sit tak ser hid rnd ovr hst pia : Int32) (coins chairOf tired hosted owed paid : A1) (sl so : Int32) (st sg va : A1) (ie : Nat → IE) : fX11_imageT (nI C) (nI G) (nI D) gn hco pride speed hpl payer dn cost sit tak ser hid rnd ovr hst pia coins chairOf tired hosted owed paid sl so st sg va ie 1 = some (1, updE ie 1 (1, nI C, nI G, nI D, va_cpy gn (ie 1).2.2.2.2.1 0 0 7, va_cpy hco (ie 1).2.2.2.2.2.1 0 0 7, va_cpy pride (ie 1).2.2.2.2.2.2.1 0 0 7, va_cpy speed (ie 1).2.2.2.2.2.2.2.1 0 0 7, va_cpy hpl (ie 1).2.2.2.2.2.2.2.2.1 0 0 7, va_cpy payer (ie 1).2.2.2.2.2.2.2.2.2.1 0 0 7, va_cpy dn (ie 1).2.2.2.2.2.2.2.2.2.2.1 0 0 6, va_cpy cost (ie 1).2.2.2.2.2.2.2.2.2.2.2.1 0 0 6, sit, tak, ser, hid, rnd, ovr, hst, pia, (ie 1).2.2.2.2.2.2.2.2.2.2.2.2.2.2.2.2.2.2.2.2.1, va_cpy coins (ie 1).2.2.2.2.2.2.2.2.2.2.2.2.2.2.2.2.2.2.2.2.2.1 0 0 7, va_cpy chairOf (ie 1).2.2.2.2.2.2.2.2.2.2.2.2.2.2.2.2.2.2.2.2.2.2.1 0 0 7, va_cpy tired (ie 1).2.2.2.2.2.2.2.2.2.2.2.2.2.2.2.2.2.2.2.2.2.2.2.1 0 0 7, va_cpy hosted (ie 1).2.2.2.2.2.2.2.2.2.2.2.2.2.2.2.2.2.2.2.2.2.2.2.2.1 0 0 7, va_cpy owed (ie 1).2.2.2.2.2.2.2.2.2.2.2.2.2.2.2.2.2.2.2.2.2.2.2.2.2.1 0 0 7, va_cpy paid (ie 1).2.2.2.2.2.2.2.2.2.2.2.2.2.2.2.2.2.2.2.2.2.2.2.2.2.2.1 0 0 7, sl, so, va_cpy st (ie 1).2.2.2.2.2.2.2.2.2.2.2.2.2.2.2.2.2.2.2.2.2.2.2.2.2.2.2.2.2.1 0 0 40, va_cpy sg (ie 1).2.2.2.2.2.2.2.2.2.2.2.2.2.2.2.2.2.2.2.2.2.2.2.2.2.2.2.2.2.2.1 0 0 40, va_cpy va (ie 1).2.2.2.2.2.2.2.2.2.2.2.2.2.2.2.2.2.2.2.2.2.2.2.2.2.2.2.2.2.2.2.1 0 0 40, (ie 1).2.2.2.2.2.2.2.2.2.2.2.2.2.2.2.2.2.2.2.2.2.2.2.2.2.2.2.2.2.2.2.2)) := by
  unfold fX11_imageT fX2_copyFrom fX1_copyFrom fX7_copyFrom
  simp only [bind_eq]
  rw [if_neg (show ¬ (1 : Int32) < 0 by decide), if_pos (show (1 : Int32) ≤ 1 by decide), if_neg (show ¬ (1 : Int32) = 0 by decide), if_pos True.intro, updE_updE, updE_updE, updE_updE]
/-- promise 41: image -/
theorem T_image {C G D : Nat} {pride speed payer cost s : A1} (hH : RH C G D pride speed payer cost s) {sit tak ser hid rnd ovr hst pia : Int32} {coins chairOf tired hosted owed paid : A1} (hF : RFp C G D sit tak ser hid rnd ovr hst pia coins chairOf tired hosted owed paid s) {gn dn nm : Nat → Int64} (hN1 : RNm G 0 gn nm) (hN2 : RNm D 7 dn nm) {sl : Int32} {st sg va : A1} (hY : RSy G sl st sg va s) (hco hpl : A1) (so : Int32) {ie : Nat → IE} {im : A1} {nk : Nat → Int64} {ak : A1} (hI : RIm ie im nk ak) (th x : Int32) :
    ∃ (r : Int32) (ie' : Nat → IE) (im' : A1) (nk' : Nat → Int64) (ak' : A1), fX11_imageT (nI C) (nI G) (nI D) gn hco pride speed hpl payer dn cost sit tak ser hid rnd ovr hst pia coins chairOf tired hosted owed paid sl so st sg va ie x = some (r, ie') ∧ fX12_image s nm th im nk ak x = some (r, 0, im', nk', ak') ∧ RIm ie' im' nk' ak' ∧ (r = 0 ∨ r = 1) := by
  have hG := hH.1.2.2.1
  have hD := hH.1.2.2.2.2
  unfold fX12_image
  rcases in01 x with ⟨rfl, h⟩ | ⟨rfl, h⟩ | ⟨h, h2⟩
  · obtain ⟨im', y1, y2, y3⟩ := image18 (k := 0) (by omega) s nm (lX12_image_51 s nm 5000) nk ak 273 0 5000 (by omega) (by omega) im (fun i hi => absurd hi (by omega))
    obtain ⟨nk', z1, z2, z3⟩ := image51 (k := 0) (by omega) s nm im' ak 13 0 5000 (by omega) (by omega) nk (fun i hi => absurd hi (by omega))
    rw [show nI 0 = 0 from rfl] at y1 z1
    rw [h, bind_eq, if_neg nn1, y1, z1]
    refine ⟨1, _, im', nk', upd ak 0 1, imgC0 C G D gn hco pride speed hpl payer dn cost sit tak ser hid rnd ovr hst pia coins chairOf tired hosted owed paid sl so st sg va ie, rfl, fun j hj => ?_, Or.inr rfl⟩
    by_cases e : j = 0
    · subst e
      right
      rw [updE_s, pk_us]
      refine ⟨rfl, rfl, C, G, D, ⟨rfl, rfl, rfl, RH_cpy (hH.congr (fun i hi => y2 i (by omega))), RNm_cpy (by omega) (RNm_cs hN1 (fun i hi => z2 i (by omega))), RNm_cpy (by omega) (RNm_cs hN2 (fun i hi => z2 i (by omega)))⟩, ⟨hF.1, hF.2.1, RF_copy hG (RF_cs hG hF.2.2 (fun i _ hi => y2 i (by omega)))⟩, RSy_cpy (RSy_cs hY (fun i _ hi => y2 i hi))⟩
    · rw [updE_n e, pk_un e]
      rcases hI j hj with h5 | ⟨h5, h6, h7⟩
      · exact Or.inl h5
      · exact Or.inr ⟨h5, h6, RIe_cs h7 (fun i hi => y3 _ (by omega)) (fun i hi => z3 _ (by omega))⟩
  · obtain ⟨im', y1, y2, y3⟩ := image18 (k := 1) (by omega) s nm (lX12_image_51 s nm 5000) nk ak 273 0 5000 (by omega) (by omega) im (fun i hi => absurd hi (by omega))
    obtain ⟨nk', z1, z2, z3⟩ := image51 (k := 1) (by omega) s nm im' ak 13 0 5000 (by omega) (by omega) nk (fun i hi => absurd hi (by omega))
    rw [show nI 0 = 0 from rfl] at y1 z1
    rw [show nI 1 = 1 from rfl] at y1 z1
    rw [h, bind_eq, if_neg nn1, y1, z1]
    refine ⟨1, _, im', nk', upd ak 1 1, imgC1 C G D gn hco pride speed hpl payer dn cost sit tak ser hid rnd ovr hst pia coins chairOf tired hosted owed paid sl so st sg va ie, rfl, fun j hj => ?_, Or.inr rfl⟩
    by_cases e : j = 1
    · subst e
      right
      rw [updE_s, pk_us]
      refine ⟨rfl, rfl, C, G, D, ⟨rfl, rfl, rfl, RH_cpy (hH.congr (fun i hi => y2 i (by omega))), RNm_cpy (by omega) (RNm_cs hN1 (fun i hi => z2 i (by omega))), RNm_cpy (by omega) (RNm_cs hN2 (fun i hi => z2 i (by omega)))⟩, ⟨hF.1, hF.2.1, RF_copy hG (RF_cs hG hF.2.2 (fun i _ hi => y2 i (by omega)))⟩, RSy_cpy (RSy_cs hY (fun i _ hi => y2 i hi))⟩
    · rw [updE_n e, pk_un e]
      rcases hI j hj with h5 | ⟨h5, h6, h7⟩
      · exact Or.inl h5
      · exact Or.inr ⟨h5, h6, RIe_cs h7 (fun i hi => y3 _ (by omega)) (fun i hi => z3 _ (by omega))⟩
  · rw [h, bind_eq, if_pos rfl]
    unfold fX11_imageT
    rcases h2 with h2 | h2
    · rw [if_pos h2]
      exact ⟨0, _, _, _, _, rfl, rfl, hI, Or.inl rfl⟩
    · by_cases h3 : x < 0
      · rw [if_pos h3]
        exact ⟨0, _, _, _, _, rfl, rfl, hI, Or.inl rfl⟩
      · rw [if_neg h3, if_neg h2]
        exact ⟨0, _, _, _, _, rfl, rfl, hI, Or.inl rfl⟩
theorem resC0_no {ie : Nat → IE} (h : (ie 0).1 = 0) (ch : Int32) (gu : Int32) (di : Int32) (gn : Nat → Int64) (hco : A1) (pride : A1) (speed : A1) (hpl : A1) (payer : A1) (dn : Nat → Int64) (cost : A1) (sit : Int32) (tak : Int32) (ser : Int32) (hid : Int32) (rnd : Int32) (ovr : Int32) (hst : Int32) (pia : Int32) (coins : A1) (chairOf : A1) (tired : A1) (hosted : A1) (owed : A1) (paid : A1) (kept : Int32) (sl : Int32) (so : Int32) (st : A1) (sg : A1) (va : A1) : fX11_restore ie ch gu di gn hco pride speed hpl payer dn cost sit tak ser hid rnd ovr hst pia coins chairOf tired hosted owed paid kept sl so st sg va 0 = some (0, ch, gu, di, gn, hco, pride, speed, hpl, payer, dn, cost, sit, tak, ser, hid, rnd, ovr, hst, pia, coins, chairOf, tired, hosted, owed, paid, kept, sl, so, st, sg, va) := by
  unfold fX11_restore
  rw [if_neg (show ¬ (0 : Int32) < 0 by decide), if_neg (show ¬ (1 : Int32) < 0 by decide), if_pos rfl, if_pos h]
theorem resC0_yes {ie : Nat → IE} (h : ¬ (ie 0).1 = 0) (ch : Int32) (gu : Int32) (di : Int32) (gn : Nat → Int64) (hco : A1) (pride : A1) (speed : A1) (hpl : A1) (payer : A1) (dn : Nat → Int64) (cost : A1) (sit : Int32) (tak : Int32) (ser : Int32) (hid : Int32) (rnd : Int32) (ovr : Int32) (hst : Int32) (pia : Int32) (coins : A1) (chairOf : A1) (tired : A1) (hosted : A1) (owed : A1) (paid : A1) (kept : Int32) (sl : Int32) (so : Int32) (st : A1) (sg : A1) (va : A1) : fX11_restore ie ch gu di gn hco pride speed hpl payer dn cost sit tak ser hid rnd ovr hst pia coins chairOf tired hosted owed paid kept sl so st sg va 0 = some (1, (ie 0).2.1, (ie 0).2.2.1, (ie 0).2.2.2.1, va_cpy (ie 0).2.2.2.2.1 gn 0 0 7, va_cpy (ie 0).2.2.2.2.2.1 hco 0 0 7, va_cpy (ie 0).2.2.2.2.2.2.1 pride 0 0 7, va_cpy (ie 0).2.2.2.2.2.2.2.1 speed 0 0 7, va_cpy (ie 0).2.2.2.2.2.2.2.2.1 hpl 0 0 7, va_cpy (ie 0).2.2.2.2.2.2.2.2.2.1 payer 0 0 7, va_cpy (ie 0).2.2.2.2.2.2.2.2.2.2.1 dn 0 0 6, va_cpy (ie 0).2.2.2.2.2.2.2.2.2.2.2.1 cost 0 0 6, (ie 0).2.2.2.2.2.2.2.2.2.2.2.2.1, (ie 0).2.2.2.2.2.2.2.2.2.2.2.2.2.1, (ie 0).2.2.2.2.2.2.2.2.2.2.2.2.2.2.1, (ie 0).2.2.2.2.2.2.2.2.2.2.2.2.2.2.2.1, (ie 0).2.2.2.2.2.2.2.2.2.2.2.2.2.2.2.2.1, (ie 0).2.2.2.2.2.2.2.2.2.2.2.2.2.2.2.2.2.1, (ie 0).2.2.2.2.2.2.2.2.2.2.2.2.2.2.2.2.2.2.1, (ie 0).2.2.2.2.2.2.2.2.2.2.2.2.2.2.2.2.2.2.2.1, va_cpy (ie 0).2.2.2.2.2.2.2.2.2.2.2.2.2.2.2.2.2.2.2.2.2.1 coins 0 0 7, va_cpy (ie 0).2.2.2.2.2.2.2.2.2.2.2.2.2.2.2.2.2.2.2.2.2.2.1 chairOf 0 0 7, va_cpy (ie 0).2.2.2.2.2.2.2.2.2.2.2.2.2.2.2.2.2.2.2.2.2.2.2.1 tired 0 0 7, va_cpy (ie 0).2.2.2.2.2.2.2.2.2.2.2.2.2.2.2.2.2.2.2.2.2.2.2.2.1 hosted 0 0 7, va_cpy (ie 0).2.2.2.2.2.2.2.2.2.2.2.2.2.2.2.2.2.2.2.2.2.2.2.2.2.1 owed 0 0 7, va_cpy (ie 0).2.2.2.2.2.2.2.2.2.2.2.2.2.2.2.2.2.2.2.2.2.2.2.2.2.2.1 paid 0 0 7, 0, (ie 0).2.2.2.2.2.2.2.2.2.2.2.2.2.2.2.2.2.2.2.2.2.2.2.2.2.2.2.1, (ie 0).2.2.2.2.2.2.2.2.2.2.2.2.2.2.2.2.2.2.2.2.2.2.2.2.2.2.2.2.1, va_cpy (ie 0).2.2.2.2.2.2.2.2.2.2.2.2.2.2.2.2.2.2.2.2.2.2.2.2.2.2.2.2.2.1 st 0 0 40, va_cpy (ie 0).2.2.2.2.2.2.2.2.2.2.2.2.2.2.2.2.2.2.2.2.2.2.2.2.2.2.2.2.2.2.1 sg 0 0 40, va_cpy (ie 0).2.2.2.2.2.2.2.2.2.2.2.2.2.2.2.2.2.2.2.2.2.2.2.2.2.2.2.2.2.2.2.1 va 0 0 40) := by
  unfold fX11_restore fX2_copyFrom fX1_copyFrom fX7_copyFrom
  simp only [bind_eq]
  rw [if_neg (show ¬ (0 : Int32) < 0 by decide), if_neg (show ¬ (1 : Int32) < 0 by decide), if_pos True.intro, if_neg h, if_pos True.intro]
theorem resC1_no {ie : Nat → IE} (h : (ie 1).1 = 0) (ch : Int32) (gu : Int32) (di : Int32) (gn : Nat → Int64) (hco : A1) (pride : A1) (speed : A1) (hpl : A1) (payer : A1) (dn : Nat → Int64) (cost : A1) (sit : Int32) (tak : Int32) (ser : Int32) (hid : Int32) (rnd : Int32) (ovr : Int32) (hst : Int32) (pia : Int32) (coins : A1) (chairOf : A1) (tired : A1) (hosted : A1) (owed : A1) (paid : A1) (kept : Int32) (sl : Int32) (so : Int32) (st : A1) (sg : A1) (va : A1) : fX11_restore ie ch gu di gn hco pride speed hpl payer dn cost sit tak ser hid rnd ovr hst pia coins chairOf tired hosted owed paid kept sl so st sg va 1 = some (0, ch, gu, di, gn, hco, pride, speed, hpl, payer, dn, cost, sit, tak, ser, hid, rnd, ovr, hst, pia, coins, chairOf, tired, hosted, owed, paid, kept, sl, so, st, sg, va) := by
  unfold fX11_restore
  rw [if_neg (show ¬ (1 : Int32) < 0 by decide), if_neg (show ¬ (1 : Int32) < 1 by decide), if_neg (show ¬ (1 : Int32) = 0 by decide), if_pos rfl, if_pos h]
theorem resC1_yes {ie : Nat → IE} (h : ¬ (ie 1).1 = 0) (ch : Int32) (gu : Int32) (di : Int32) (gn : Nat → Int64) (hco : A1) (pride : A1) (speed : A1) (hpl : A1) (payer : A1) (dn : Nat → Int64) (cost : A1) (sit : Int32) (tak : Int32) (ser : Int32) (hid : Int32) (rnd : Int32) (ovr : Int32) (hst : Int32) (pia : Int32) (coins : A1) (chairOf : A1) (tired : A1) (hosted : A1) (owed : A1) (paid : A1) (kept : Int32) (sl : Int32) (so : Int32) (st : A1) (sg : A1) (va : A1) : fX11_restore ie ch gu di gn hco pride speed hpl payer dn cost sit tak ser hid rnd ovr hst pia coins chairOf tired hosted owed paid kept sl so st sg va 1 = some (1, (ie 1).2.1, (ie 1).2.2.1, (ie 1).2.2.2.1, va_cpy (ie 1).2.2.2.2.1 gn 0 0 7, va_cpy (ie 1).2.2.2.2.2.1 hco 0 0 7, va_cpy (ie 1).2.2.2.2.2.2.1 pride 0 0 7, va_cpy (ie 1).2.2.2.2.2.2.2.1 speed 0 0 7, va_cpy (ie 1).2.2.2.2.2.2.2.2.1 hpl 0 0 7, va_cpy (ie 1).2.2.2.2.2.2.2.2.2.1 payer 0 0 7, va_cpy (ie 1).2.2.2.2.2.2.2.2.2.2.1 dn 0 0 6, va_cpy (ie 1).2.2.2.2.2.2.2.2.2.2.2.1 cost 0 0 6, (ie 1).2.2.2.2.2.2.2.2.2.2.2.2.1, (ie 1).2.2.2.2.2.2.2.2.2.2.2.2.2.1, (ie 1).2.2.2.2.2.2.2.2.2.2.2.2.2.2.1, (ie 1).2.2.2.2.2.2.2.2.2.2.2.2.2.2.2.1, (ie 1).2.2.2.2.2.2.2.2.2.2.2.2.2.2.2.2.1, (ie 1).2.2.2.2.2.2.2.2.2.2.2.2.2.2.2.2.2.1, (ie 1).2.2.2.2.2.2.2.2.2.2.2.2.2.2.2.2.2.2.1, (ie 1).2.2.2.2.2.2.2.2.2.2.2.2.2.2.2.2.2.2.2.1, va_cpy (ie 1).2.2.2.2.2.2.2.2.2.2.2.2.2.2.2.2.2.2.2.2.2.1 coins 0 0 7, va_cpy (ie 1).2.2.2.2.2.2.2.2.2.2.2.2.2.2.2.2.2.2.2.2.2.2.1 chairOf 0 0 7, va_cpy (ie 1).2.2.2.2.2.2.2.2.2.2.2.2.2.2.2.2.2.2.2.2.2.2.2.1 tired 0 0 7, va_cpy (ie 1).2.2.2.2.2.2.2.2.2.2.2.2.2.2.2.2.2.2.2.2.2.2.2.2.1 hosted 0 0 7, va_cpy (ie 1).2.2.2.2.2.2.2.2.2.2.2.2.2.2.2.2.2.2.2.2.2.2.2.2.2.1 owed 0 0 7, va_cpy (ie 1).2.2.2.2.2.2.2.2.2.2.2.2.2.2.2.2.2.2.2.2.2.2.2.2.2.2.1 paid 0 0 7, 0, (ie 1).2.2.2.2.2.2.2.2.2.2.2.2.2.2.2.2.2.2.2.2.2.2.2.2.2.2.2.1, (ie 1).2.2.2.2.2.2.2.2.2.2.2.2.2.2.2.2.2.2.2.2.2.2.2.2.2.2.2.2.1, va_cpy (ie 1).2.2.2.2.2.2.2.2.2.2.2.2.2.2.2.2.2.2.2.2.2.2.2.2.2.2.2.2.2.1 st 0 0 40, va_cpy (ie 1).2.2.2.2.2.2.2.2.2.2.2.2.2.2.2.2.2.2.2.2.2.2.2.2.2.2.2.2.2.2.1 sg 0 0 40, va_cpy (ie 1).2.2.2.2.2.2.2.2.2.2.2.2.2.2.2.2.2.2.2.2.2.2.2.2.2.2.2.2.2.2.2.1 va 0 0 40) := by
  unfold fX11_restore fX2_copyFrom fX1_copyFrom fX7_copyFrom
  simp only [bind_eq]
  rw [if_neg (show ¬ (1 : Int32) < 0 by decide), if_neg (show ¬ (1 : Int32) < 1 by decide), if_neg (show ¬ (1 : Int32) = 0 by decide), if_pos True.intro, if_neg h, if_neg (show ¬ (1 : Int32) = 0 by decide), if_pos True.intro]
theorem isIn_k {k : Nat} (hk : k < 2) : fX12_isIn (nI k) 0 1 = some 1 := by
  have : k = 0 ∨ k = 1 := by omega
  rcases this with rfl | rfl
  · decide
  · decide
theorem resM_no {k : Nat} (hk : k < 2) {ak : A1} (h : ak k = 0) (im : A1) (nk : Nat → Int64) (th um : Int32) (s : A1) (nm : Nat → Int64) : fX12_restore im nk ak th um s nm (nI k) = some (0, 0, um, s, nm) := by
  unfold fX12_restore
  rw [isIn_k hk, bind_eq, if_neg nn1, gI_ok hk (by omega), ix0 (by omega), if_pos h]
theorem resM_yes {k : Nat} (hk : k < 2) {ak : A1} (h : ¬ ak k = 0) (im : A1) (nk : Nat → Int64) (th um : Int32) (s : A1) (nm : Nat → Int64) : ∃ s' nm', fX12_restore im nk ak th um s nm (nI k) = some (1, 0, 0, s', nm') ∧ (∀ i, i < 273 → s' i = im (273 * k + i)) ∧ ∀ i, i < 13 → nm' i = nk (13 * k + i) := by
  obtain ⟨s', y1, y2⟩ := restore27 hk im nk ak (lX12_restore_60 im nk ak 5000) um nm 273 0 5000 (by omega) (by omega) s (fun i hi => absurd hi (by omega))
  obtain ⟨nm', z1, z2⟩ := restore60 hk im nk ak um s' 13 0 5000 (by omega) (by omega) nm (fun i hi => absurd hi (by omega))
  rw [show nI 0 = 0 from rfl] at y1 z1
  refine ⟨s', nm', ?_, y2, z2⟩
  unfold fX12_restore
  rw [isIn_k hk, bind_eq, if_neg nn1, gI_ok hk (by omega), ix0 (by omega), if_neg h, y1, z1]
/-- promise 42: restore -/
theorem T_restore {ie : Nat → IE} {im : A1} {nk : Nat → Int64} {ak : A1} (hI : RIm ie im nk ak) (ch : Int32) (gu : Int32) (di : Int32) (gn : Nat → Int64) (hco : A1) (pride : A1) (speed : A1) (hpl : A1) (payer : A1) (dn : Nat → Int64) (cost : A1) (sit : Int32) (tak : Int32) (ser : Int32) (hid : Int32) (rnd : Int32) (ovr : Int32) (hst : Int32) (pia : Int32) (coins : A1) (chairOf : A1) (tired : A1) (hosted : A1) (owed : A1) (paid : A1) (kept : Int32) (sl : Int32) (so : Int32) (st : A1) (sg : A1) (va : A1) (um : Int32) (s : A1) (nm : Nat → Int64) (th x : Int32) :
    ∃ (r : Int32) (ch' : Int32) (gu' : Int32) (di' : Int32) (gn' : Nat → Int64) (hco' : A1) (pride' : A1) (speed' : A1) (hpl' : A1) (payer' : A1) (dn' : Nat → Int64) (cost' : A1) (sit' : Int32) (tak' : Int32) (ser' : Int32) (hid' : Int32) (rnd' : Int32) (ovr' : Int32) (hst' : Int32) (pia' : Int32) (coins' : A1) (chairOf' : A1) (tired' : A1) (hosted' : A1) (owed' : A1) (paid' : A1) (kept' : Int32) (sl' : Int32) (so' : Int32) (st' : A1) (sg' : A1) (va' : A1) (um' : Int32) (s' : A1) (nm' : Nat → Int64), fX11_restore ie ch gu di gn hco pride speed hpl payer dn cost sit tak ser hid rnd ovr hst pia coins chairOf tired hosted owed paid kept sl so st sg va x = some (r, ch', gu', di', gn', hco', pride', speed', hpl', payer', dn', cost', sit', tak', ser', hid', rnd', ovr', hst', pia', coins', chairOf', tired', hosted', owed', paid', kept', sl', so', st', sg', va') ∧ fX12_restore im nk ak th um s nm x = some (r, 0, um', s', nm') ∧ (r = 0 ∨ r = 1) ∧
      ((ch' = ch ∧ gu' = gu ∧ di' = di ∧ gn' = gn ∧ hco' = hco ∧ pride' = pride ∧ speed' = speed ∧ hpl' = hpl ∧ payer' = payer ∧ dn' = dn ∧ cost' = cost ∧ sit' = sit ∧ tak' = tak ∧ ser' = ser ∧ hid' = hid ∧ rnd' = rnd ∧ ovr' = ovr ∧ hst' = hst ∧ pia' = pia ∧ coins' = coins ∧ chairOf' = chairOf ∧ tired' = tired ∧ hosted' = hosted ∧ owed' = owed ∧ paid' = paid ∧ kept' = kept ∧ sl' = sl ∧ so' = so ∧ st' = st ∧ sg' = sg ∧ va' = va ∧ um' = um ∧ s' = s ∧ nm' = nm) ∨ (∃ C G D, RHl C G D ch' gu' di' gn' pride' speed' payer' dn' cost' s' nm' ∧ RFp C G D sit' tak' ser' hid' rnd' ovr' hst' pia' coins' chairOf' tired' hosted' owed' paid' s' ∧ RSy G sl' st' sg' va' s' ∧ kept' = 0 ∧ um' = 0)) := by
  have no : fX12_isIn x 0 1 = some 0 ∨ (fX12_isIn x 0 1 = some 1 ∧ (x = 0 ∨ x = 1)) := by
    rcases in01 x with ⟨h, h2⟩ | ⟨h, h2⟩ | ⟨h, -⟩
    · exact Or.inr ⟨h2, Or.inl h⟩
    · exact Or.inr ⟨h2, Or.inr h⟩
    · exact Or.inl h
  rcases in01 x with ⟨rfl, h⟩ | ⟨rfl, h⟩ | ⟨h, h2⟩
  · rcases hI 0 (by omega) with ⟨h5, h6⟩ | ⟨h5, h6, C, G, D, ⟨a1, a2, a3, hH, n1, n2⟩, hF, hY⟩
    · exact ⟨_, _, _, _, _, _, _, _, _, _, _, _, _, _, _, _, _, _, _, _, _, _, _, _, _, _, _, _, _, _, _, _, _, _, _, resC0_no h6 ch gu di gn hco pride speed hpl payer dn cost sit tak ser hid rnd ovr hst pia coins chairOf tired hosted owed paid kept sl so st sg va, resM_no (k := 0) (by omega) h5 im nk th um s nm, Or.inl rfl, Or.inl ⟨rfl, rfl, rfl, rfl, rfl, rfl, rfl, rfl, rfl, rfl, rfl, rfl, rfl, rfl, rfl, rfl, rfl, rfl, rfl, rfl, rfl, rfl, rfl, rfl, rfl, rfl, rfl, rfl, rfl, rfl, rfl, rfl, rfl, rfl⟩⟩
    · have g5 : ¬ ak 0 = 0 := by
        rw [h5]
        decide
      have g6 : ¬ (ie 0).1 = 0 := by
        rw [h6]
        decide
      obtain ⟨s', nm', y1, y2, z2⟩ := resM_yes (k := 0) (by omega) g5 im nk th um s nm
      have hG := hH.1.2.2.1
      have hD := hH.1.2.2.2.2
      exact ⟨_, _, _, _, _, _, _, _, _, _, _, _, _, _, _, _, _, _, _, _, _, _, _, _, _, _, _, _, _, _, _, _, _, _, _, resC0_yes g6 ch gu di gn hco pride speed hpl payer dn cost sit tak ser hid rnd ovr hst pia coins chairOf tired hosted owed paid kept sl so st sg va, y1, Or.inr rfl, Or.inr ⟨C, G, D, ⟨a1, a2, a3, RH_cpy (hH.congr (fun i hi => y2 i (by omega))), RNm_cpy (by omega) (RNm_cs n1 (fun i hi => z2 i (by omega))), RNm_cpy (by omega) (RNm_cs n2 (fun i hi => z2 i (by omega)))⟩, ⟨hF.1, hF.2.1, RF_copy hG (RF_cs hG hF.2.2 (fun i _ hi => y2 i (by omega)))⟩, RSy_cpy (RSy_cs hY (fun i _ hi => y2 i hi)), rfl, rfl⟩⟩
  · rcases hI 1 (by omega) with ⟨h5, h6⟩ | ⟨h5, h6, C, G, D, ⟨a1, a2, a3, hH, n1, n2⟩, hF, hY⟩
    · exact ⟨_, _, _, _, _, _, _, _, _, _, _, _, _, _, _, _, _, _, _, _, _, _, _, _, _, _, _, _, _, _, _, _, _, _, _, resC1_no h6 ch gu di gn hco pride speed hpl payer dn cost sit tak ser hid rnd ovr hst pia coins chairOf tired hosted owed paid kept sl so st sg va, resM_no (k := 1) (by omega) h5 im nk th um s nm, Or.inl rfl, Or.inl ⟨rfl, rfl, rfl, rfl, rfl, rfl, rfl, rfl, rfl, rfl, rfl, rfl, rfl, rfl, rfl, rfl, rfl, rfl, rfl, rfl, rfl, rfl, rfl, rfl, rfl, rfl, rfl, rfl, rfl, rfl, rfl, rfl, rfl, rfl⟩⟩
    · have g5 : ¬ ak 1 = 0 := by
        rw [h5]
        decide
      have g6 : ¬ (ie 1).1 = 0 := by
        rw [h6]
        decide
      obtain ⟨s', nm', y1, y2, z2⟩ := resM_yes (k := 1) (by omega) g5 im nk th um s nm
      have hG := hH.1.2.2.1
      have hD := hH.1.2.2.2.2
      exact ⟨_, _, _, _, _, _, _, _, _, _, _, _, _, _, _, _, _, _, _, _, _, _, _, _, _, _, _, _, _, _, _, _, _, _, _, resC1_yes g6 ch gu di gn hco pride speed hpl payer dn cost sit tak ser hid rnd ovr hst pia coins chairOf tired hosted owed paid kept sl so st sg va, y1, Or.inr rfl, Or.inr ⟨C, G, D, ⟨a1, a2, a3, RH_cpy (hH.congr (fun i hi => y2 i (by omega))), RNm_cpy (by omega) (RNm_cs n1 (fun i hi => z2 i (by omega))), RNm_cpy (by omega) (RNm_cs n2 (fun i hi => z2 i (by omega)))⟩, ⟨hF.1, hF.2.1, RF_copy hG (RF_cs hG hF.2.2 (fun i _ hi => y2 i (by omega)))⟩, RSy_cpy (RSy_cs hY (fun i _ hi => y2 i hi)), rfl, rfl⟩⟩
  · unfold fX12_restore
    rw [h, bind_eq, if_pos rfl]
    unfold fX11_restore
    by_cases h3 : x < 0
    · rw [if_pos h3]
      exact ⟨_, _, _, _, _, _, _, _, _, _, _, _, _, _, _, _, _, _, _, _, _, _, _, _, _, _, _, _, _, _, _, _, _, _, _, rfl, rfl, Or.inl rfl, Or.inl ⟨rfl, rfl, rfl, rfl, rfl, rfl, rfl, rfl, rfl, rfl, rfl, rfl, rfl, rfl, rfl, rfl, rfl, rfl, rfl, rfl, rfl, rfl, rfl, rfl, rfl, rfl, rfl, rfl, rfl, rfl, rfl, rfl, rfl, rfl⟩⟩
    · rw [if_neg h3, if_pos (fa_of_nle (h2.resolve_left h3))]
      exact ⟨_, _, _, _, _, _, _, _, _, _, _, _, _, _, _, _, _, _, _, _, _, _, _, _, _, _, _, _, _, _, _, _, _, _, _, rfl, rfl, Or.inl rfl, Or.inl ⟨rfl, rfl, rfl, rfl, rfl, rfl, rfl, rfl, rfl, rfl, rfl, rfl, rfl, rfl, rfl, rfl, rfl, rfl, rfl, rfl, rfl, rfl, rfl, rfl, rfl, rfl, rfl, rfl, rfl, rfl, rfl, rfl, rfl, rfl⟩⟩
