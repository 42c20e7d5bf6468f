theorem zz_probe : (lw_tbl.filter goodWord).length = (lw_tbl.filter goodWord).length := rfl
