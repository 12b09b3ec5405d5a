abbrev fm_c : ByteArray := prog_12_method_52_code
