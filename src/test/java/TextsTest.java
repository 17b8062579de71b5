/** Promises 15 to 18: the tape, texts and their faults, rules, what a text says. */
public final class TextsTest {
    private static final int MIN = Integer.MIN_VALUE, MAX = Integer.MAX_VALUE;

    public static void main(String[] args) {
        feeding();
        fedByAnyNumber();
        fullTape();
        lastPlaces();
        numbering();
        faults();
        everyByte();
        depth();
        ruling();
        values();
        wrapping();
        facts();
        saying();
        Check.end();
    }

    private static void feeding() {
        TwoHeads x = new TwoHeads();
        Check.due("n 0", x.feed(0, 0), -2);
        Check.due("n 9", x.feed(9, 0), -2);
        Check.due("n below 0", x.feed(-1, 0), -2);
        Check.due("n far off", x.feed(MAX, 0), -2);
        Check.due("n far off", x.feed(MIN, 0), -2);
        Check.due("nothing came", x.count(7), 0);
        // The bytes above the n lowest are left out: the b of binds alone comes.
        Check.due("one byte", x.feed(1, 0x7F7F7F7F7F7F7F62L), 1);
        Check.due("lowest first", x.feed(4, 0x73646E69L), 5);
        Check.due("and behind it", x.feed(3, 0x3B3120L), 8);
        Check.feed(x, "saved 0;");
        Check.due("count", x.count(7), 16);
        Check.due("a text", x.text(), 1);
        Check.due("empty then", x.count(7), 0);
    }

    /** A TEXT by 1 .. 8 bytes a call, all bytes above them being such as no TEXT has. */
    private static void fedByAnyNumber() {
        String text = "binds 7;saved 8;";
        for (int n = 1; n <= 8; n++) {
            TwoHeads x = new TwoHeads();
            for (int from = 0; from < text.length(); from += n) {
                long bytes = -1;
                int now = Math.min(n, text.length() - from);
                for (int k = 0; k < now; k++) bytes ^= (long) (text.charAt(from + k) ^ 255) << 8 * k;
                Check.due("by " + n, x.feed(now, bytes), from + now);
            }
            Check.due("a TEXT that came by " + n, x.text(), 1);
        }
        TwoHeads y = new TwoHeads();
        Check.due("the highest byte of all", y.feed(8, 0xE96F6F6F6F6F6F20L), 8);
        Check.due("no word", y.text(), -101);
        Check.due("the highest byte of all", y.feed(8, 0xE920202020202020L), 8);
        Check.due("it begins no TOKEN", y.text(), -107);
        Check.due("255", y.feed(8, -1), 8);
        Check.due("it begins no TOKEN", y.text(), -100);
        Check.due("0", y.feed(8, 0), 8);
        Check.due("nor does 0", y.text(), -100);
    }

    private static void fullTape() {
        TwoHeads x = new TwoHeads();
        for (int i = 1; i <= 19; i++) Check.due("blanks", x.feed(8, 0x2020202020202020L), 8 * i);
        Check.due("one short of full", x.feed(7, 0x20202020202020L), 159);
        Check.due("two have no room", x.feed(2, 0x2020L), -4);
        Check.due("bad ahead of full", x.feed(9, 0), -2);
        Check.due("one has", x.feed(1, 0x20L), 160);
        Check.due("full", x.feed(1, 0x20L), -4);
        Check.due("ends too early", x.text(), -260);
        Check.due("empty by a fault", x.count(7), 0);
        StringBuilder whole = new StringBuilder("binds 1");
        while (whole.length() < 151) whole.append("+1");
        whole.append(";saved 0;");
        Check.due("160 bytes", whole.length(), 160);
        Check.due("a text of 160 bytes", Check.text(x, whole.toString()), 1);
        x.rule(0, 1);
        x.person(0);
        x.act(0, 0, 0, 0, 0);
        Check.due("all of it counts", x.says(0, 0, 0), 73);
    }

    private static void lastPlaces() {
        faultAt(" ".repeat(159) + "x", 159);
        faultAt(" ".repeat(159) + "?", 159);
        faultAt(" ".repeat(159) + "1", 159);
        faultAt(" ".repeat(155) + "12345", 155);
        faultAt(" ".repeat(155) + "binds", 160);
        faultAt(" ".repeat(156) + "bind", 156);
        faultAt("binds 1;saved 1;" + " ".repeat(143) + "1", 159);
        faultAt("binds 1;saved 1" + " ".repeat(145), 160);
        faultAt("binds 1;saved 1" + " ".repeat(144) + "x", 159);
        reads("binds 1;saved 1" + " ".repeat(144) + ";");
        reads("binds 1;saved 1;" + " ".repeat(144));
        reads(" ".repeat(144) + "binds 1;saved 1;");
        reads("binds" + "\n".repeat(144) + " 1;saved 1;");
    }

    private static void numbering() {
        TwoHeads x = new TwoHeads();
        Check.due("nothing on the tape", x.text(), -100);
        for (int t = 1; t < 6; t++) Check.due("text", Check.text(x, "binds " + t + ";saved 0;"), t);
        Check.feed(x, "binds?");
        Check.due("full ahead of a fault", x.text(), -4);
        Check.due("the tape stays", x.count(7), 6);
        Check.due("count", x.count(6), 6);
    }

    private static void faults() {
        faultAt("", 0);
        faultAt("   ", 3);
        faultAt("binds", 5);
        faultAt("binds  ", 7);
        faultAt("binds ;", 6);
        faultAt("binds 1", 7);
        faultAt("binds 1;", 8);
        faultAt("binds 1; saved", 14);
        faultAt("binds 1; saved 1", 16);
        faultAt("binds 1; saved 1 \n", 18);
        faultAt("binds 1; saved 1; 1", 18);
        faultAt("binds 1; saved 1;;", 17);
        faultAt("binds 1; saved 1; binds", 18);
        faultAt("saved 1; binds 1;", 0);
        faultAt("binds 1; binds 1;", 9);
        faultAt("bindssame; saved 1;", 0);
        faultAt("binds sames; saved 1;", 6);
        faultAt("binds sam; saved 1;", 6);
        faultAt("Binds 1; saved 1;", 0);
        faultAt("binds 1; saved Faith;", 15);
        faultAt("binds 1\t; saved 1;", 7);
        faultAt("binds 1\r; saved 1;", 7);
        faultAt("binds 1; saved 1;" + (char) 0, 17);
        faultAt("binds " + (char) 233 + "; saved 1;", 6);
        faultAt("binds 1" + (char) 160 + "; saved 1;", 7);
        faultAt("binds 12345; saved 1;", 6);
        faultAt("binds 00001; saved 1;", 6);
        faultAt("binds 1 12345; saved 1;", 8);
        faultAt("binds 1 2; saved 1;", 8);
        faultAt("binds 1 same; saved 1;", 8);
        faultAt("binds 1 < 2 < 3; saved 1;", 12);
        faultAt("binds 1 = 2 < 3; saved 1;", 12);
        faultAt("binds 1 << 3; saved 1;", 9);
        faultAt("binds 1 + not 1; saved 1;", 10);
        faultAt("binds 1 < not 1; saved 1;", 10);
        faultAt("binds - not 1; saved 1;", 8);
        faultAt("binds 2 * not 1; saved 1;", 10);
        faultAt("binds not; saved 1;", 9);
        faultAt("binds (1; saved 1;", 8);
        faultAt("binds 1); saved 1;", 7);
        faultAt("binds (); saved 1;", 7);
        faultAt("binds ((1); saved 1;", 10);
        faultAt("binds +1; saved 1;", 6);
        faultAt("binds *1; saved 1;", 6);
        faultAt("binds 1 or or 1; saved 1;", 11);
        faultAt("binds or 1; saved 1;", 6);
        faultAt("binds 1 and; saved 1;", 11);
        faultAt("binds 1 not 1; saved 1;", 8);
        faultAt("binds (1)(2); saved 1;", 9);
        faultAt("binds 1 > 2; saved 1;", 8);
        faultAt("binds 1; saved 1; x", 18);
        faultAt("binds saved; saved 1;", 6);
        faultAt("binds 1, saved 1;", 7);
        faultAt("? binds", 0);
        faultAt("same", 0);
        faultAt("binds 1 saved 1;", 8);
        faultAt("binds 1; or 1;", 9);
        faultAt("binds samez; saved 1;", 6);
        faultAt("binds 1; saved zz;", 15);
        faultAt("(".repeat(160), 0);
        faultAt(";".repeat(160), 0);
        for (String word : new String[] {"kind", "day", "rank", "same", "hangs", "faith", "not", "or", "and"}) {
            faultAt("binds x" + word.substring(1) + " 1; saved 1;", 6);
            faultAt("binds " + word + "s 1; saved 1;", 6);
            faultAt("binds " + word.substring(0, word.length() - 1) + "x 1; saved 1;", 6);
            faultAt("binds a" + word + " 1; saved 1;", 6);
        }
        leftOvers();
    }

    /** Each of the 256 bytes where just a few of them may stand. */
    private static void everyByte() {
        for (int b = 0; b < 256; b++) {
            String s = String.valueOf((char) b);
            boolean blank = b == 32 || b == 10;
            boolean digit = b >= 48 && b <= 57;
            boolean letter = b >= 97 && b <= 122;
            boolean ends = ";+-*<=".indexOf(b) >= 0;
            readsOrFaultAt(s + "binds 1;saved 1;", blank, 0);
            readsOrFaultAt("binds 1;saved 1;" + s, blank, 16);
            readsOrFaultAt("binds 1" + s + ";saved 1;", blank || digit, ends ? 8 : 7);
            readsOrFaultAt("binds same" + s + ";saved 1;", blank, letter ? 6 : ends ? 11 : 10);
            readsOrFaultAt("binds sa" + s + "me;saved 1;", false, 6);
            readsOrFaultAt("binds 9999" + s + ";saved 1;", blank, digit ? 6 : ends ? 11 : 10);
        }
    }

    private static void readsOrFaultAt(String text, boolean may, int place) {
        if (may) reads(text);
        else faultAt(text, place);
    }

    /** What an earlier TEXT left on THE TAPE is gone. */
    private static void leftOvers() {
        TwoHeads x = new TwoHeads();
        Check.due("digits", Check.text(x, "9".repeat(40)), -100);
        Check.due("ends behind a digit", Check.text(x, "binds 1;saved 1"), -115);
        Check.due("letters", Check.text(x, "e".repeat(40)), -100);
        Check.due("ends behind a letter", Check.text(x, "binds 1;saved same"), -118);
        Check.due("blanks", Check.text(x, " ".repeat(40)), -140);
        Check.due("ends behind a blank", Check.text(x, "binds 1;saved 1 "), -116);
        Check.due("a text after all", Check.text(x, "binds 1;saved 1;"), 1);
        Check.due("its binds", Check.text(x, "binds 1+1+1;saved 2;"), 2);
        x.person(0);
        x.act(0, 0, 0, 0, 0);
        x.rule(0, 1);
        Check.due("texts are apart", x.says(0, 0, 0), 1);
        x.rule(0, 2);
        Check.due("texts are apart", x.says(0, 0, 0), 3);
    }

    private static void faultAt(String text, int place) {
        Check.due("fault of '" + text + "'", Check.text(new TwoHeads(), text), -100 - place);
    }

    private static void reads(String text) {
        Check.due("'" + text + "'", Check.text(new TwoHeads(), text), 1);
    }

    private static void depth() {
        reads("binds (((((1))))); saved 1;");
        faultAt("binds ((((((1)))))); saved 1;", 11);
        reads("binds not not not not not 1; saved 1;");
        faultAt("binds not not not not not not 1; saved 1;", 26);
        reads("binds -----1; saved -----1;");
        faultAt("binds ------1; saved 1;", 11);
        faultAt("binds 1;saved ------1;", 19);
        faultAt("binds 1;saved ((((((1))))));", 19);
        faultAt("binds 1;saved not not not not not not 1;", 34);
        faultAt("binds -----1+------1; saved 1;", 18);
        faultAt("binds (((((1)))))*((((((1)))))); saved 1;", 23);
        reads("binds -----1+-----1*-----1<-----1 and -----1; saved (((((1)))));");
        reads("binds not (-(-1)); saved 1;");
        faultAt("binds not (-(-(1))); saved 1;", 14);
        faultAt("binds not (-(-not 1)); saved 1;", 14);
        faultAt("binds not not (-(-1)); saved 1;", 17);
        faultAt("binds not not (-(1) + (2)) * ((-(3))); saved 1;", 32);
        faultAt("binds ((((not (1))))); saved 1;", 14);
        faultAt("binds ((((not not 1)))); saved 1;", 14);
        faultAt("binds ((((not 1 < -1)))); saved 1;", 18);
        faultAt("binds ((((not 1 + -1)))); saved 1;", 18);
        reads("binds ((((not 1 - 1)))); saved 1;");
        reads("binds ((((not 1 and -1)))); saved 1;");
        reads("binds ((((not 1 or not 1)))); saved 1;");
        reads("binds ((((-1 * -1 - -1)))) + (((((1))))); saved 1;");
        faultAt("binds ((((- -1)))); saved 1;", 12);
        reads("binds not not not not not 1 and not not not not not 1; saved 1;");
        reads("binds (1)+(1)+(1)+(1)+(1)+(1)+(1)+(1)+(1); saved 1;");
        reads("binds\n1\n;\n saved 9999 ;  \n");
        reads("binds(same)and(faith)or not(day<10)and 1or 2;saved-1;");
        reads("binds 1and 2;saved 0000;");
    }

    private static void ruling() {
        TwoHeads x = new TwoHeads();
        Check.due("no TEXT 1 yet", x.rule(0, 1), -2);
        Check.text(x, "binds 1;saved 0;");
        Check.due("rule", x.rule(2, 1), 0);
        Check.due("rule", x.rule(2, 0), 1);
        Check.due("rule", x.rule(2, 1), 0);
        Check.due("rule", x.rule(1, 1), 0);
        Check.due("told", x.count(8), 0);
        Check.due("told", x.count(9), 1);
        Check.due("told", x.count(10), 1);
        for (int bad : new int[] {-1, 3, MIN, MAX}) Check.due("no such side", x.rule(bad, 0), -2);
        for (int bad : new int[] {-1, 2, 6, MIN, MAX}) Check.due("no such text", x.rule(0, bad), -2);
    }

    private static void valueIs(String e, long value) {
        TwoHeads x = new TwoHeads();
        x.person(0);
        x.act(4, 0, 7, 123, 1);
        x.rule(1, Check.text(x, "binds " + e + "; saved 0;"));
        Check.due(e, x.says(1, 0, 0), value);
        TwoHeads y = new TwoHeads();
        y.person(0);
        y.act(4, 0, 7, 123, 1);
        y.rule(1, Check.text(y, "binds 5; saved " + e + ";"));
        Check.due(e, y.says(1, 0, 1), value);
        Check.due("the other part", y.says(1, 0, 0), 5);
    }

    private static void values() {
        valueIs("7", 7);
        valueIs("0012", 12);
        valueIs("9999", 9999);
        valueIs("-9999", -9999);
        valueIs("10 - 3 - 2", 5);
        valueIs("2 + 3 * 4", 14);
        valueIs("(2 + 3) * 4", 20);
        valueIs("- 2 * 3", -6);
        valueIs("- -2", 2);
        valueIs("2 - -2", 4);
        valueIs("2--2", 4);
        valueIs("-(2+3)", -5);
        valueIs("1 < 2", 1);
        valueIs("2 < 2", 0);
        valueIs("-1 < 0", 1);
        valueIs("2 = 2", 1);
        valueIs("2 = 3", 0);
        valueIs("1 + 1 = 2", 1);
        valueIs("2 < 1 + 2 * 1", 1);
        valueIs("(1 < 2) + (2 < 3)", 2);
        valueIs("5 or 0", 1);
        valueIs("0 or 0", 0);
        valueIs("0 or 0 or -7", 1);
        valueIs("5 and 7", 1);
        valueIs("5 and 0", 0);
        valueIs("0 and 5", 0);
        valueIs("-1 and -1", 1);
        valueIs("-1 or 0", 1);
        valueIs("not -1", 0);
        valueIs("1 or 1 and 0", 1);
        valueIs("(1 or 1) and 0", 0);
        valueIs("0 and 0 or 1", 1);
        valueIs("not 0", 1);
        valueIs("not 7", 0);
        valueIs("not not 7", 1);
        valueIs("not 1 = 2", 1);
        valueIs("not 0 and 0", 0);
        valueIs("not 0 or 1", 1);
        valueIs("not 1 < 0 and 5", 1);
        valueIs("(7)", 7);
        valueIs("9999*9999", 99980001);
        valueIs("9999*9999*9999", (int) (9999L * 9999 * 9999));
        valueIs("9999*9999*22", (int) (9999L * 9999 * 22));
        valueIs("-(8192*8192*32)", MIN);
        valueIs("8192*8192*32-1", MAX);
        valueIs("8192*8192*32 < 0", 1);
        valueIs("8192*8192*64", 0);
        valueIs("1or 1and 1<1+1*(1or 1and 1<1+1*(1or 1and 1<1+1*(1or 1and 1<1+1*(1or 1and 1<1+1*(0or 0and 0<0+0*7)))))", 1);
        valueIs("0or 1and 2<1+1*(0or 1and 2<1+1*(0or 1and 2<1+1*(0or 1and 2<1+1*(0or 1and 2<1+1*(0or 1and 2<0+3*1)))))", 0);
    }

    private static void wrapping() {
        valueIs("8192*8192*32-1+1", MIN);
        valueIs("8192*8192*32+8192*8192*32", 0);
        valueIs("8192*8192*32+8192*8192*32-1", -1);
        valueIs("0-8192*8192*32", MIN);
        valueIs("-1-8192*8192*32", MAX);
        valueIs("-(8192*8192*32-1)-1", MIN);
        valueIs("-(8192*8192*32-1)-2", MAX);
        valueIs("8192*8192*32*-1", MIN);
        valueIs("9999*9999*9999*9999*9999", (int) (9999L * 9999 * 9999 * 9999 * 9999));
        valueIs("8192*8192*32-1 < 8192*8192*32", 0);
        valueIs("8192*8192*32 = -(8192*8192*32)", 1);
        valueIs("8192*8192*64 = 0", 1);
        valueIs("not 8192*8192*64", 1);
        valueIs("8192*8192*64 or 8192*8192*64", 0);
        valueIs("8192*8192*64+1 and 8192*8192*32", 1);
        valueIs("not 8192*8192*32", 0);
    }

    private static void facts() {
        valueIs("kind", 4);
        valueIs("day", 123);
        valueIs("rank", 4);
        valueIs("hangs", 0);
        valueIs("faith", 1);
        valueIs("same", 0);
        valueIs("kind*1000+day", 4123);
    }

    private static void saying() {
        TwoHeads x = new TwoHeads();
        x.person(2);
        x.turn(2, 50, 1);
        x.act(0, 0, 0, 49, 0);
        x.act(5, 0, 0, 50, 1);
        Check.due("TEXT 0 binds same", x.says(0, 0, 0), 1);
        Check.due("TEXT 0 binds same", x.says(1, 0, 0), 0);
        Check.due("TEXT 0 binds same", x.says(0, 1, 0), 0);
        Check.due("TEXT 0 binds same", x.says(1, 1, 0), 1);
        Check.due("same under SIDE 2", x.says(2, 0, 0), 1);
        Check.due("same under SIDE 2", x.says(2, 1, 0), 1);
        Check.due("TEXT 0 saved faith", x.says(0, 0, 1), 0);
        Check.due("TEXT 0 saved faith", x.says(0, 1, 1), 1);
        x.rule(0, Check.text(x, "binds hangs; saved rank - 100;"));
        x.hang(1, 0);
        Check.due("hangs", x.says(0, 1, 0), 1);
        Check.due("hangs", x.says(0, 0, 0), 0);
        Check.due("below 0", x.says(0, 1, 1), -95);
        for (int bad : new int[] {-1, 3, MIN, MAX}) Check.due("no such side", x.says(bad, 0, 0), TwoHeads.NO);
        for (int bad : new int[] {-1, 2, 24, MIN, MAX}) {
            Check.due("no such act", x.says(0, bad, 0), TwoHeads.NO);
            Check.due("no such part", x.says(0, 0, bad), TwoHeads.NO);
        }
    }
}
