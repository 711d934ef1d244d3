/** Promises 6 to 8: feed, end, fault. */
public final class TapeTest {
    public static void main(String[] args) {
        feed();
        end();
        wholeTexts();
        faults();
        digits();
        depths();
        blanks();
        longTexts();
        oddBytes();
        Check.finish("TapeTest");
    }

    private static void feed() {
        UnlikeBoats x = new UnlikeBoats();
        Check.due("nothing but 0", x.feed(0, 0, 0, 0, 0), 0);
        Check.due("five numbers", x.feed(0x6e3a3100, 0, 0, 0, 0x00002b31), 5);
        Check.due("read highest first", x.fault(), -1);
        Check.due("bytes in between", x.feed(0x2a000000, 0x00310000, 0x00002a00, 0x00000031, 0), 9);
        Check.due("read in their order", x.fault(), -1);
        Check.due("count(8)", x.count(8), 9);
        x = new UnlikeBoats();
        for (int i = 1; i <= 9; i++) {
            Check.due("twenty more", x.feed(0x31313131, 0x31313131, 0x31313131, 0x31313131, 0x31313131), 20 * i);
        }
        x.feed(0x31000000, 0, 0, 0, 0);
        Check.due("more than 200", x.feed(0x31313131, 0x31313131, 0x31313131, 0x31313131, 0x31313131), -1);
        Check.due("refused changes nothing", x.count(8), 181);
        Check.due("just 200", x.feed(0x31313131, 0x31313131, 0x31313131, 0x31313131, 0x00313131), 200);
        Check.due("one more", x.feed(0, 0, 0, 0, 0x31), -1);
        Check.due("none more", x.feed(0, 0, 0, 0, 0), 200);
        for (int bit = 0; bit < 32; bit++) {
            int one = 1 << bit;
            Check.due("a byte at bit " + bit, x.feed(one, 0, 0, 0, 0), -1);
            Check.due("a byte at bit " + bit, x.feed(0, one, 0, 0, 0), -1);
            Check.due("a byte at bit " + bit, x.feed(0, 0, one, 0, 0), -1);
            Check.due("a byte at bit " + bit, x.feed(0, 0, 0, one, 0), -1);
            Check.due("a byte at bit " + bit, x.feed(0, 0, 0, 0, one), -1);
        }
        Check.due("count(8)", x.count(8), 200);
        x = new UnlikeBoats();
        Check.due("negative numbers", x.feed(-1, 0x80000000, 0, 0, 0xff), 6);
    }

    private static void end() {
        UnlikeBoats x = new UnlikeBoats();
        Check.due("end(0) of nothing", x.end(0), true);
        Check.due("end(1) of nothing", x.end(1), false);
        Check.feed(x, "n:1+l;");
        Check.due("end below", x.end(-1), false);
        Check.due("end above", x.end(7), false);
        Check.due("end at", x.end(6), true);
        Check.due("whole", x.count(8), 6);
        Check.due("its fault", x.fault(), 6);
        Check.due("end(5)", x.end(5), true);
        Check.due("five bytes", x.count(8), 5);
        Check.due("without fault", x.fault(), -1);
        Check.due("end(6) then", x.end(6), false);
        Check.due("goes on behind", Check.feed(x, "l"), 6);
        Check.due("what was cut is gone", x.fault(), 5);
        Check.due("end(0)", x.end(0), true);
        Check.due("empty", x.count(8), 0);
        Check.due("empty has a fault", x.fault(), 0);
    }

    private static void wholeTexts() {
        String[] texts = {
            "n:1", "p:0", "t:00000", "a:99999", "b:l", "n:l;n:l", "n:1;p:1;t:1;a:1;b:1",
            "n:l+s-w*k/r", "n:[l]", "n:[l+s]*[w-k]", "n:[[[l]]]",
            "n:l=1?2", "n:l<1?2", "n:l>1?2", "n:[l]=1?2", "n:[l+1]*2<[s]?[w]",
            "n:!l=1?2", "n:!!l=1?2", "n:(l=1)?2", "n:((l=1))?2", "n:!(l=1)?2", "n:(!l=1)?2",
            "n:l=1&s=1?2", "n:l=1|s=1?2", "n:l=1&s=1|w=1&k=1?2", "n:(l=1|s=1)&(w=1|k=1)?2",
            "n:l=1&!(s=1|!w=1)?2;n:3", "n:!l=1&!s=1?r", "n:1+2*3/4-5=[6-7]?8",
            "a:l+s+w+k+r+e+f+c+d+g+h+u+m+o"
        };
        for (int i = 0; i < texts.length; i++) Check.due("fault of " + texts[i], Check.faultOf(texts[i]), -1);
    }

    private static void faults() {
        fault("", 0);
        fault("x", 0);
        fault("l:1", 0);
        fault(":1", 0);
        fault("1", 0);
        fault("n", 1);
        fault("nn:1", 1);
        fault("n:", 2);
        fault("n::1", 2);
        fault("n:n", 2);
        fault("n:;", 2);
        fault("n:-1", 2);
        fault("n:+1", 2);
        fault("n:)", 2);
        fault("n:]", 2);
        fault("n:?", 2);
        fault("n:1;", 4);
        fault("n:1;;", 4);
        fault("n:1;1", 4);
        fault("n:1+", 4);
        fault("n:1++", 4);
        fault("n:1*-1", 4);
        fault("n:1l", 3);
        fault("n:ll", 3);
        fault("n:l1", 3);
        fault("n:l(", 3);
        fault("n:l[", 3);
        fault("n:l!", 3);
        fault("n:l)", 3);
        fault("n:l]", 3);
        fault("n:l?1", 3);
        fault("n:l&l=1?1", 3);
        fault("n:l:1", 3);
        fault("n:l=1", 5);
        fault("n:l=1;n:1", 5);
        fault("n:l=1=1?1", 5);
        fault("n:l==1?1", 4);
        fault("n:l<=1?1", 4);
        fault("n:l=!1", 4);
        fault("n:l=(1)", 4);
        fault("n:l=1?", 6);
        fault("n:l=1?l=1", 7);
        fault("n:l=1?(", 6);
        fault("n:l=1?!", 6);
        fault("n:l=1?1?1", 7);
        fault("n:l=1&", 6);
        fault("n:l=1&?", 6);
        fault("n:l=1&1?", 7);
        fault("n:l=1&&", 6);
        fault("n:l=1|&", 6);
        fault("n:l=1)", 5);
        fault("n:l=1]", 5);
        fault("n:(", 3);
        fault("n:(1)", 4);
        fault("n:(1;", 4);
        fault("n:(l=1", 6);
        fault("n:(l=1?1", 6);
        fault("n:(l=1;", 6);
        fault("n:(l=1]", 6);
        fault("n:(l=1)", 7);
        fault("n:(l=1);", 7);
        fault("n:(l=1)+1", 7);
        fault("n:(l=1)=1", 7);
        fault("n:!", 3);
        fault("n:!1", 4);
        fault("n:!1?", 4);
        fault("n:!l=1", 6);
        fault("n:!l=1;", 6);
        fault("n:[", 3);
        fault("n:[]", 3);
        fault("n:[l=1]", 4);
        fault("n:[l)", 4);
        fault("n:[(", 3);
        fault("n:[!", 3);
        fault("n:[l;", 4);
        fault("n:[l]l", 5);
        fault("n:1;x", 4);
        fault("n:1;n", 5);
        fault("n:1,", 3);
        fault("N:1", 0);
        fault("n:L", 2);
        for (char c = 'a'; c <= 'z'; c++) {
            fault("n:" + c, "lswkrefcdghumo".indexOf(c) >= 0 ? -1 : 2);
            fault(c + ":1", "nptab".indexOf(c) >= 0 ? -1 : 0);
        }
    }

    private static void digits() {
        fault("n:12345", -1);
        fault("n:123456", 7);
        fault("n:000000", 7);
        fault("n:l+123456789", 9);
        fault("n:12345+12345", -1);
        fault("n:1 2", 4);
        fault("n:12345 6", 8);
        fault("n:1  2", 5);
    }

    private static void depths() {
        fault("n:[[[[[[[[1]]]]]]]]", -1);
        fault("n:[[[[[[[[[1]]]]]]]]]", 10);
        fault("n:((((((((l=1))))))))?1", -1);
        fault("n:(((((((((l=1)))))))))?1", 10);
        fault("n:!!!!!!!!l=1?1", -1);
        fault("n:!!!!!!!!!l=1?1", 10);
        fault("n:!!!!!!!(l=1)?1", -1);
        fault("n:!!!!!!!!(l=1)?1", 10);
        fault("n:!!!!!!!![l]=1?1", 10);
        fault("n:!!!!!!![[l]]=1?1", 10);
        fault("n:(!([l]=1))?1", -1);
        fault("n:(!(!(!([l]=1))))?1", -1);
        fault("n:(!(!(!([[l]]=1))))?1", 10);
        fault("n:!!!!!!!!l=1&!!!!!!!!s=1?1", -1);
        fault("n:!!!!!!!!l=1|(s=1)?1", -1);
        fault("n:!!!!!!!!l=[1]?1", 12);
        fault("n:!!!!!!!!l=1?[[[[[[[[1]]]]]]]]", -1);
        fault("n:!!!!!!!!l=1?[[[[[[[[[1]]]]]]]]]", 22);
        fault("n:[[[[[[[[1]]]]]]]]+[[[[[[[[1]]]]]]]]", -1);
        fault("n:[[[[[[[[1]]]]]]]]=1?1", -1);
        fault("n:[[[[[[[[1]]]]]]]]=1&[1]=1?1", -1);
        fault("n:[[[[[[[[", 10);
        fault("n:[1];n:[[[[[[[[1]]]]]]]]", -1);
        fault("n:(l=1&!!!!!!!s=1&!!!!!!!w=1)?1", -1);
        fault("n:(l=1&!!!!!!!s=1&!!!!!!!!w=1)?1", 25);
    }

    private static void blanks() {
        fault("n : 1", -1);
        fault("n:  1  +  l  ;  p  :  2", -1);
        fault("n: ! ( l = 1 | s > 2 & [ w ] < 3 ) ? 4 * 5", -1);
        fault("n: l x", 5);
        fault(" n:1", -1);
        fault("n:1  ", -1);
        fault("n:1; ", 5);
        fault("  ", 2);
        fault("n: ", 3);
        fault("n:l + ", 6);
        fault("n:l= ", 5);
        fault("n:1\t+1", 3);
        fault("n:1;  x:1", 6);
    }

    private static void longTexts() {
        StringBuilder text = new StringBuilder("n:1");
        while (text.length() < 199) text.append(";n:1");
        Check.due("199 bytes", text.length(), 199);
        fault(text.toString(), -1);
        fault(text + ";", 200);
        StringBuilder sum = new StringBuilder("n:l");
        while (sum.length() < 199) sum.append("+l");
        fault(sum.toString(), -1);
        fault(sum + "-", 200);
        StringBuilder part = new StringBuilder("p:k=1");
        while (part.length() < 190) part.append(part.length() % 8 == 1 ? "|k=1" : "&k=1");
        fault(part + "?r", -1);
    }

    private static void oddBytes() {
        UnlikeBoats x = new UnlikeBoats();
        x.feed(0x6e3a31ff, 0, 0, 0, 0);
        Check.due("byte 255", x.fault(), 3);
        x.end(0);
        x.feed(0xee3a3100, 0, 0, 0, 0);
        Check.due("byte 238", x.fault(), 0);
        x.end(0);
        x.feed(0x6e3a0131, 0, 0, 0, 0);
        Check.due("byte 1", x.fault(), 2);
        Check.due("fault changes nothing", x.count(8), 4);
    }

    private static void fault(String text, int want) {
        Check.due("fault of " + text, Check.faultOf(text), want);
    }
}
