/** The public face and "Terms": a test for each sentence that names an edge, and for each that an edge leans on. */
public final class TermsTest extends Checks {
    // ---- the public face

    private static void face() {
        says("public static final int NONE = -1, BAD = -2, STATE = -3, FULL = -4;");
        due("NONE", WhichSwitch.NONE, -1);
        due("BAD", WhichSwitch.BAD, -2);
        due("STATE", WhichSwitch.STATE, -3);
        due("FULL", WhichSwitch.FULL, -4);
        says("public static final long NO = -4611686018427387904L;");
        due("NO", WhichSwitch.NO, -4611686018427387904L);
        says("An object is used for at most 512 calls after it has been made");
        WhichSwitch x = new WhichSwitch();
        due("call 1", x.fuse(9, 1), 0);
        due("call 2", x.lamp(4, 40, 0, 0), 0);
        due("call 3", x.sheet(0, 0, 1), 1);
        due("call 4", x.house(0), 0);
        for (int call = 5; call <= 510; call += 2) {
            int hour = call % 24;
            x.set(2, hour);
            due("call " + (call + 1), x.set(2, hour), hour);
        }
        due("call 511", x.meter(0), 40);
        due("call 512", x.over(0), 1);
    }

    // ---- fuses, switches, the hour, slips

    private static void fuses() {
        says("FUSES are numbered from 0 on, 6 at most");
        WhichSwitch x = new WhichSwitch();
        for (int f = 0; f < 6; f++) {
            due("fuse(7, 7)", x.fuse(7, 7), f);
        }
        due("a seventh", x.fuse(7, 7), FULL);
        due("how many", x.count(4), 6);

        says("BEARS (0 .. 999)");
        x = new WhichSwitch();
        due("-1", x.fuse(-1, 1), BAD);
        due("1000", x.fuse(1000, 1), BAD);
        due("0", x.fuse(0, 1), 0);
        due("999", x.fuse(999, 1), 1);
        due("0 is kept", x.taken(0, 6), 0);
        due("999 is kept", x.taken(1, 6), 999);

        says("TAKES (1 .. 99)");
        x = new WhichSwitch();
        due("0", x.fuse(1, 0), BAD);
        due("100", x.fuse(1, 100), BAD);
        due("-1", x.fuse(1, -1), BAD);
        due("1", x.fuse(1, 1), 0);
        due("99", x.fuse(1, 99), 1);
        x.lamp(0, 1, 0, 0);
        house(x, 0);
        house(x, 1);
        due("DARK by 1", x.order(0, 1), 1);
        due("DARK by 99, the first of all", x.order(1, 1), 99);

        says("Which are OUT (bits; none at first)");
        x = plain(2, 1);
        house(x, 1);
        due("at first", x.count(0), 0);
        due("LIT at first", x.show(0), 1);
        due("all that are there", x.set(0, 3), 0);
        due("one that isn't", x.set(0, 4), BAD);
        due("a FUSE of later", x.fuse(1, 1), 2);
        due("it isn't OUT", x.count(0), 3);
        due("it may be OUT", x.set(0, 7), 3);
        x = new WhichSwitch();
        due("no FUSE, none OUT", x.set(0, 0), 0);
        due("no FUSE, one OUT", x.set(0, 1), BAD);
    }

    private static void switches() {
        says("SWITCHES 0 .. 7: which are ON (bits; none at first)");
        WhichSwitch x = fused(1);
        due("at first", x.count(1), 0);
        x.lamp(0, 1, 70, 0);
        house(x, 0);
        due("SWITCH 7 at first", x.show(0), 0);
        due("-1", x.set(1, -1), BAD);
        due("256", x.set(1, 256), BAD);
        due("all but SWITCH 7", x.set(1, 127), 0);
        due("SWITCH 7", x.show(0), 0);
        due("SWITCH 7 alone", x.set(1, 128), 127);
        due("SWITCH 7", x.show(0), 1);
        due("all", x.set(1, 255), 128);
        due("none", x.set(1, 0), 255);

        says("THE HOUR (0 .. 23; 0 at first)");
        due("at first", x.count(2), 0);
        due("-1", x.set(2, -1), BAD);
        due("24", x.set(2, 24), BAD);
        due("23", x.set(2, 23), 0);
        due("0", x.set(2, 0), 23);
        due("it does not wrap", x.set(2, 47), BAD);

        says("SLIPS (0 .. 99; 0 at first)");
        due("at first", x.count(3), 0);
        due("-1", x.set(3, -1), BAD);
        due("100", x.set(3, 100), BAD);
        due("99", x.set(3, 99), 0);
        due("0", x.set(3, 0), 99);
    }

    // ---- lamps, houses

    private static void lamps() {
        says("LAMPS are numbered from 0 on, 10 at most");
        WhichSwitch x = new WhichSwitch();
        for (int l = 0; l < 10; l++) {
            due("lamp(0, 1, 0, 0)", x.lamp(0, 1, 0, 0), l);
        }
        due("an eleventh", x.lamp(0, 1, 0, 0), FULL);
        due("how many", x.count(5), 10);

        says("POWER (1 .. 99)");
        x = new WhichSwitch();
        due("0", x.lamp(0, 0, 0, 0), BAD);
        due("-1", x.lamp(0, -1, 0, 0), BAD);
        due("100", x.lamp(0, 100, 0, 0), BAD);
        due("1", x.lamp(0, 1, 0, 0), 0);
        due("99", x.lamp(0, 99, 0, 0), 1);
        due("1 is kept", x.lampTold(0, 1), 1);
        due("99 is kept", x.lampTold(1, 1), 99);

        says("a ROOM (0 .. 5)");
        x = new WhichSwitch();
        due("below 0", x.lamp(0, 1, -100, 0), BAD);
        due("6", x.lamp(0, 1, 600, 0), BAD);
        due("0", x.lamp(0, 1, 77, 0), 0);
        due("5", x.lamp(0, 1, 500, 0), 1);
        due("0 is kept", x.lampTold(0, 2), 0);
        due("5 is kept", x.lampTold(1, 2), 5);

        says("SWITCHES X and Y (0 .. 7 each)");
        x = new WhichSwitch();
        due("X 8", x.lamp(0, 1, 80, 0), BAD);
        due("X 9, Y 9", x.lamp(0, 1, 99, 0), BAD);
        due("Y 8", x.lamp(0, 1, 508, 0), BAD);
        due("Y 9", x.lamp(0, 1, 79, 0), BAD);
        due("below 0", x.lamp(0, 1, -1, 0), BAD);
        due("X 8 in the last ROOM", x.lamp(0, 1, 587, 0), BAD);
        due("X 7, Y 0", x.lamp(0, 1, 570, 0), 0);
        due("X 0, Y 7", x.lamp(0, 1, 507, 0), 1);
        due("X 7 is kept", x.lampTold(0, 3), 7);
        due("Y 0 is kept", x.lampTold(0, 4), 0);
        due("X 0 is kept", x.lampTold(1, 3), 0);
        due("Y 7 is kept", x.lampTold(1, 4), 7);

        says("MORE (0 .. 9)");
        x = new WhichSwitch();
        due("-1", x.lamp(0, 1, 0, -1), BAD);
        due("10", x.lamp(0, 1, 0, 10), BAD);
        due("0", x.lamp(0, 1, 0, 0), 0);
        due("9", x.lamp(0, 1, 0, 9), 1);
        due("0 is kept", x.lampTold(0, 5), 0);
        due("9 is kept", x.lampTold(1, 5), 9);
    }

    private static void houses() {
        says("HOUSES are numbered from 0 on, 12 at most: for each LAMP the FUSE that feeds it.");
        WhichSwitch x = plain(2, 1);
        for (int h = 0; h < 12; h++) {
            due("a HOUSE", house(x, h % 2), h);
        }
        due("a thirteenth", house(x, 0), FULL);
        due("how many", x.count(6), 12);
        due("the first's FUSE", x.fedBy(0, 0), 0);
        due("the last's FUSE", x.fedBy(11, 0), 1);
        due("the last as a bit", x.lets(), 4095);
        due("LIT in the last", x.show(11), 1);
    }

    // ---- kinds

    /** An object with six FUSES and a LAMP of this KIND, fed by FUSE 0 in HOUSE 0. */
    private static WhichSwitch oneOf(int kind, int where, int more) {
        WhichSwitch x = fused(6);
        x.lamp(kind, 10, where, more);
        house(x, 0);
        return x;
    }

    private static int shownBy(WhichSwitch x, int out, int on, int hour) {
        x.set(0, out);
        x.set(1, on);
        x.set(2, hour);
        return x.show(0);
    }

    private static void joins() {
        says("0 JOIN: FED, if its FUSE isn't OUT; on, if X is ON.");
        WhichSwitch x = oneOf(0, 12, 1);
        due("X alone", shownBy(x, 0, 2, 0), 1);
        due("Y alone", shownBy(x, 0, 4, 0), 0);
        due("all but X", shownBy(x, 0, 253, 0), 0);
        due("all others OUT", shownBy(x, 62, 2, 0), 1);
        due("its FUSE OUT", shownBy(x, 1, 255, 0), 0);

        says("1 ROWED (a JOIN).");
        x = oneOf(1, 12, 1);
        due("X alone", shownBy(x, 0, 2, 0), 1);
        due("Y alone", shownBy(x, 0, 4, 0), 0);
        due("its FUSE OUT, FUSE 1 not", shownBy(x, 1, 2, 0), 0);

        says("4 BLIND (a JOIN): always on.");
        x = oneOf(4, 12, 1);
        due("no SWITCH ON", shownBy(x, 0, 0, 0), 1);
        due("all ON", shownBy(x, 0, 255, 23), 1);
        due("its FUSE OUT, FUSE 1 not", shownBy(x, 1, 255, 12), 0);
    }

    private static void stairs() {
        says("2 STAIR (a JOIN): on, if just one of X, Y is ON (never, if they are one).");
        WhichSwitch x = oneOf(2, 12, 1);
        due("none", shownBy(x, 0, 249, 0), 0);
        due("X", shownBy(x, 0, 2, 0), 1);
        due("Y", shownBy(x, 0, 4, 0), 1);
        due("both", shownBy(x, 0, 6, 0), 0);
        due("its FUSE OUT, FUSE 1 not", shownBy(x, 1, 2, 0), 0);
        x = oneOf(2, 33, 1);
        due("one, not ON", shownBy(x, 0, 0, 0), 0);
        due("one, ON", shownBy(x, 0, 8, 0), 0);
        due("one, all ON", shownBy(x, 0, 255, 12), 0);

        says("5 TIMED (a STAIR): on as a STAIR, from HOUR 6 to 17.");
        x = oneOf(5, 12, 1);
        int[] dark = {0, 1, 5, 18, 19, 23};
        for (int hour : dark) {
            due("X at " + hour, shownBy(x, 0, 2, hour), 0);
        }
        int[] light = {6, 7, 12, 16, 17};
        for (int hour : light) {
            due("X at " + hour, shownBy(x, 0, 2, hour), 1);
            due("Y at " + hour, shownBy(x, 0, 4, hour), 1);
            due("both at " + hour, shownBy(x, 0, 6, hour), 0);
            due("none at " + hour, shownBy(x, 0, 0, hour), 0);
            due("its FUSE OUT at " + hour, shownBy(x, 1, 2, hour), 0);
        }
        x = oneOf(5, 33, 1);
        due("one, ON by day", shownBy(x, 0, 8, 12), 0);
    }

    private static void borrowed() {
        says("3 BORROWED (a JOIN): FED also, if there is a FUSE of the number MORE, and it isn't OUT.");
        WhichSwitch x = oneOf(3, 12, 5);
        due("X alone", shownBy(x, 0, 2, 0), 1);
        due("Y alone", shownBy(x, 0, 4, 0), 0);
        due("its FUSE OUT", shownBy(x, 1, 2, 0), 1);
        due("all OUT but the last", shownBy(x, 31, 2, 0), 1);
        due("all OUT but its own", shownBy(x, 62, 2, 0), 1);
        due("both OUT", shownBy(x, 33, 2, 0), 0);
        x = oneOf(3, 0, 6);
        due("of FUSE 6, its own OUT", shownBy(x, 1, 1, 0), 0);
        x = oneOf(3, 0, 9);
        due("of FUSE 9, its own OUT", shownBy(x, 1, 1, 0), 0);
        x = oneOf(3, 0, 0);
        due("of its own", shownBy(x, 62, 1, 0), 1);
        due("of its own, OUT", shownBy(x, 1, 1, 0), 0);
        x = fused(2);
        x.lamp(3, 10, 0, 2);
        house(x, 0);
        due("of FUSE 2 of two", shownBy(x, 1, 1, 0), 0);
        x.fuse(1, 1);
        due("of FUSE 2 of three", x.show(0), 1);
        due("OUT", shownBy(x, 5, 1, 0), 0);

        says("(Whatever isn't told is as of the KIND above.)");
        int[] others = {0, 1, 2, 4, 5};
        for (int kind : others) {
            x = oneOf(kind, 1, 3);
            due("KIND " + kind + " by day", shownBy(x, 0, 1, 12), 1);
            due("KIND " + kind + " borrows none", shownBy(x, 1, 1, 12), 0);
        }
    }

    private static void rows() {
        says("LIT in a HOUSE are those that are FED and on.");
        WhichSwitch x = fused(2);
        x.lamp(0, 1, 0, 0);
        x.lamp(0, 1, 10, 0);
        x.lamp(0, 1, 0, 0);
        x.lamp(0, 1, 10, 0);
        house(x, 0, 0, 1, 1);
        house(x, 0, 1, 1, 0);
        x.set(0, 2);
        x.set(1, 1);
        due("in HOUSE 0", x.show(0), 1);
        due("in HOUSE 1", x.show(1), 1);
        x.set(1, 3);
        due("in HOUSE 0", x.show(0), 3);
        due("in HOUSE 1", x.show(1), 9);

        says("how many ROWED ones with its MORE are LIT in that HOUSE, in whichever ROOM (1 at least)");
        x = fused(2);
        for (int l = 0; l < 10; l++) {
            x.lamp(1, 99, 100 * (l % 6) + 10 * (l % 8), 9);
        }
        house(x, 0, 0, 0, 0, 0, 0, 0, 0, 0, 0);
        house(x, 0, 1, 1, 1, 1, 1, 1, 1, 1, 1);
        x.set(1, 255);
        law(x, "glow row * 100;tone 0;load row;");
        due("ten, a tenth of the bound", x.bright(0, 9), 99);
        due("ten", x.load(0, 0), 100);
        x.set(0, 2);
        due("one in HOUSE 1", x.bright(1, 0), 100);
        due("none LIT", x.bright(1, 1), 0);
        due("still ten in HOUSE 0", x.load(0, 0), 100);
        x.set(1, 1);
        due("SWITCH 0 has LAMPS 0 and 8", x.load(0, 0), 4);

        says("of all others 1");
        int[] kinds = {0, 2, 3, 4, 5};
        for (int kind : kinds) {
            x = fused(1);
            x.lamp(kind, 1, 1, 9);
            x.lamp(kind, 1, 1, 9);
            x.lamp(1, 1, 0, 9);
            x.lamp(1, 1, 0, 9);
            x.lamp(1, 1, 0, 8);
            house(x, 0, 0, 0, 0, 0);
            x.set(1, 1);
            x.set(2, 12);
            law(x, "glow row * 10;tone 0;load row * 10;");
            due("KIND " + kind, x.bright(0, 0), 10);
            due("a ROWED one beside", x.bright(0, 2), 10);
            due("1, 1, 2, 2, 1", x.load(0, 0), 70);
            law(x, "glow 7;tone 0;load row * 10;");
            due("KIND " + kind + ", not cut", x.bright(0, 0), 7);
            due("a ROWED one beside, cut", x.bright(0, 2), 3);
        }

        says("what glow of THE LAW says by its ROW (cut).");
        x = fused(1);
        x.lamp(1, 8, 0, 0);
        x.lamp(1, 9, 0, 0);
        x.lamp(1, 10, 0, 0);
        x.lamp(1, 2, 0, 0);
        x.lamp(1, 11, 0, 1);
        house(x, 0, 0, 0, 0, 0);
        x.set(1, 1);
        due("8 by 4", x.bright(0, 0), 2);
        due("9 by 4", x.bright(0, 1), 2);
        due("10 by 4", x.bright(0, 2), 2);
        due("2 by 4", x.bright(0, 3), 0);
        due("11 by 1", x.bright(0, 4), 11);
    }

    // ---- texts

    private static String padded(String s, int size) {
        return s + " ".repeat(size - s.length());
    }

    private static void tape() {
        says("A TEXT is read from THE TAPE (160 bytes at most).");
        String least = "glow 1;tone 2;load 3;";
        due("160 bytes", fault(padded(least, 160)), 1);
        due("the last of 160 a SIGN that can't stand there", fault(padded(least, 159) + ";"), -259);
        due("160 bytes, ended too early", fault(padded("glow", 160)), -260);
        String long160 = "glow 1" + " + 1".repeat(35) + ";tone 1;load 1";
        due("its size with the last", (long160 + ";").length(), 161);
        due("ended too early by one that had no room", fault(long160), -260);
        String full160 = "glow 1" + "+ 1".repeat(46) + ";tone 1;load 1;";
        due("its size", full160.length(), 159);
        WhichSwitch x = oneOf(4, 0, 0);
        due("many ONES", text(x, full160 + "\n"), 1);
        x.force(1);
        due("all of them", x.bright(0, 0), 47);
        WhichSwitch y = new WhichSwitch();
        for (int i = 1; i <= 20; i++) {
            due("8 more", y.feed(-1L, 8), 8 * i);
        }
        due("the 161st", y.feed(0, 1), FULL);
        due("161 .. 168", y.feed(0, 8), FULL);
        due("how many", y.count(11), 160);
    }

    private static void tokens() {
        says("TOKENS, each as long as can be");
        due("two WORDS are one", fault("glowglow"), -100);
        due("a WORD ends at a digit", fault("glow1;tone2;load3;"), 1);
        due("a NUMBER ends at a letter", fault("glow 1or 2and 3;tone 1;load 1;"), 1);
        due("two NUMBERS are one", glow("12"), 12);
        due("a SIGN is one alone", fault("glow--1;tone--1;load--1;"), 1);
        due("no SIGN is of two", fault("glow 1<=2;"), -107);

        says("WORDS (as many letters a .. z as stand there)");
        due("a z in it", fault("zglow"), -100);
        due("an a behind it", fault("glowa 1;"), -100);
        due("ahead of a", fault("glow` 1;"), -104);
        due("behind z", fault("glow{ 1;"), -104);
        due("a capital", fault("gloW 1;"), -100);
        due("a capital behind it", fault("glow W;"), -105);

        says("NUMBERS (as many digits as stand there; more than 4 are too long)");
        due("9999", glow("9999 - 9990"), 9);
        due("0000", glow("0000"), 0);
        due("0999", glow("0999"), 999);
        due("10000", glow("10000"), -105);
        due("00000", glow("00000"), -105);
        due("09999", glow("1 - 09999"), -109);
        due("80 digits", glow("9".repeat(80)), -105);
        due("ahead of 0", glow("1/"), -106);
        due("behind 9", glow("1:"), -106);
        due("no fraction", glow("1.5"), -106);
    }

    private static void signs() {
        says("SIGNS ( ) ; + - * < = ;");
        due("all of them", fault("glow(1);tone-1+2*3<4;load 1=1;"), 1);
        String begins = " \n0123456789abcdefghijklmnopqrstuvwxyz();+-*<=";
        for (int b = 0; b < 256; b++) {
            String s = "glow " + (char) b + "power;tone 1;load 1;";
            boolean blank = b == ' ' || b == '\n';
            int got = fault(s);
            if (begins.indexOf(b) < 0) {
                due("byte " + b + " begins none", got, -105);
                due("byte " + b + " ahead", fault((char) b + s), -100);
                due("byte " + b + " behind", fault("glow 1;tone 1;load 1;" + (char) b), -121);
            } else if (blank) {
                due("blank " + b, got, 1);
                due("blank " + b + " ahead", fault((char) b + "glow 1;tone 1;load 1;"), 1);
                due("blank " + b + " behind", fault("glow 1;tone 1;load 1;" + (char) b), 1);
            }
        }

        says("blanks (32, 10) may stand between");
        due("between all", fault("\nglow \n ( power\n+ 1 ) ; tone - 1\n; load not 2 < 3 ;\n"), 1);
        due("between none that may do without", fault("glow(power+1);tone-1;load(not 2<3);"), 1);
        due("in a WORD", fault("gl ow 1;"), -100);
        due("in a NAME", fault("glow po\nwer;"), -105);
        due("in a NUMBER", fault("glow 1 2;"), -107);
        due("a tab", fault("glow\t1;"), -104);
        due("a return", fault("glow 1;\r\n"), -107);
        due("byte 0", fault("glow 1;" + (char) 0), -107);
        due("byte 160", fault("glow 1;" + (char) 160), -107);
    }

    private static void texts() {
        says("TEXT: glow E ; tone E ; load E ;");
        due("just that", fault("glow 1;tone 1;load 1;"), 1);
        due("nothing", fault(""), -100);
        due("tone first", fault("tone 1;load 1;glow 1;"), -100);
        due("no tone", fault("glow 1;load 1;"), -107);
        due("no load", fault("glow 1;tone 1;"), -114);
        due("glow once more", fault("glow 1;tone 1;load 1;glow 1;"), -121);
        due("no E in glow", fault("glow;"), -104);
        due("no E in tone", fault("glow 1;tone;"), -111);
        due("no E in load", fault("glow 1;tone 1;load;"), -118);
        due("no ; in the end", fault("glow 1;tone 1;load 1"), -120);
        due("one ; too many", fault("glow 1;tone 1;load 1;;"), -121);

        says("E: AND { or AND }. AND: NOT { and NOT }. NOT: not NOT, or SUM, perhaps < or = and a SUM.");
        due("or between two", glow("0 or"), -109);
        due("or ahead", glow("or 0"), -105);
        due("and between two", glow("0 and ;"), -111);
        due("and ahead", glow("and 0"), -105);
        due("or is the weaker one", glow("1 or 1 and 0"), 1);
        due("or is the weaker one, behind it too", glow("0 and 1 or 1"), 1);
        due("not is stronger than and", glow("not 0 and 0"), 0);
        due("not is weaker than =", glow("not 0 = 1"), 1);
        due("not of nothing", glow("not"), -108);
        due("not behind a SIGN", glow("1 = not 1"), -109);
        due("one < alone", glow("1 < 2 < 3"), -111);
        due("one = alone", glow("1 = 1 = 1"), -111);
        due("many or", glow("0 or 0 or 0 or 0 or 0 or 0 or 7"), 1);
        due("many and", glow("1 and 2 and 3 and 4 and 5 and 6 and 0"), 0);

        says("SUM: TERM { + or - TERM }. TERM: ONE { * ONE }. ONE: a NUMBER, a NAME, - ONE, ( E ).");
        due("from the left", glow("9 - 3 - 2"), 4);
        due("* ahead of +", glow("2 + 3 * 4 + 5"), 19);
        due("- of a ONE alone", glow("- 2 * 3 + 7"), 1);
        due("- behind *", glow("2 * - 3 + 7"), 1);
        due("+ ahead of a ONE", glow("+ 1"), -105);
        due("* ahead of a ONE", glow("* 1"), -105);
        due("an E in ( )", glow("(1 or 0) + (not 3 < 2)"), 2);
        due("( not closed", glow("(1"), -107);
        due(") not opened", glow("1)"), -106);
        due("( ) of nothing", glow("()"), -106);
        String[] halves = {"", "not", "-", "1 or", "1 and", "1 <", "1 =", "1 +", "1 -", "1 *", "1 * -", "1 or not"};
        for (String half : halves) {
            due("half of an E ahead of ;: " + half, glow(half + ";"), -105 - half.length());
            due("half of an E ahead of ): " + half, glow("(" + half + ")"), -106 - half.length());
            due("half of an E ahead of a KEY: " + half, glow("2 + (" + half + " tone"),
                    -111 - half.length());
        }

        says("NAMES: power row hour room more far.");
        due("power", glow("power"), 7);
        due("row", glow("row"), 1);
        due("hour", glow("hour"), 9);
        due("room", glow("room"), 2);
        due("more", glow("more"), 5);
        due("far", glow("far + 3"), 3);
        due("no other", glow("lamp"), -105);
        due("a KEY is none", glow("glow"), -105);
    }

    private static void values() {
        says("An E is an int (32 bits, wrapping)");
        // 8192 * 8192 * 32 is 2147483648, one more than the greatest int
        String over = "8192 * 8192 * 32";
        due("beyond the greatest is the least", glow(over + " < 0"), 1);
        due("1 less is the greatest", glow("0 < " + over + " - 1"), 1);
        due("the least less 1 is the greatest", glow("- (" + over + ") - 1 < 0"), 0);
        due("the least's - is itself", glow("- (" + over + ") = " + over), 1);
        due("twice that is 0", glow(over + " * 2 = 0"), 1);
        due("that and that is 0", glow(over + " + " + over + " + 7"), 7);
        due("the least less that is 0", glow("- (" + over + ") - " + over + " + 7"), 7);
        due("3 in the 19th power does not wrap", glow("2187 * 2187 * 243 < 0"), 0);
        due("3 in the 20th power wraps", glow("2187 * 2187 * 729 < 0"), 1);
        due("9998000100 is 1408065508", glow("9999 * 9999 * 100 = 1408 * 1000 * 1000 + 65 * 1000 + 508"), 1);

        says("of or, and, not, <, = 1 or 0 (what is not 0 is true)");
        due("0 or 0", glow("5 + (0 or 0)"), 5);
        due("2 or 4", glow("5 + (2 or 4)"), 6);
        due("0 or - 1", glow("5 + (0 or - 1)"), 6);
        due("2 and 4", glow("5 + (2 and 4)"), 6);
        due("2 and 0", glow("5 + (2 and 0)"), 5);
        due("- 1 and 1", glow("5 + (- 1 and 1)"), 6);
        due("not 0", glow("5 + (not 0)"), 6);
        due("not 2", glow("5 + (not 2)"), 5);
        due("not - 1", glow("5 + (not - 1)"), 5);
        due("2 < 3", glow("5 + (2 < 3)"), 6);
        due("3 < 3", glow("5 + (3 < 3)"), 5);
        due("4 < 3", glow("5 + (4 < 3)"), 5);
        due("3 = 3", glow("5 + (3 = 3)"), 6);
        due("3 = 4", glow("5 + (3 = 4)"), 5);

        says("What each says is 0 .. 999 (else the bound).");
        String[] es = {"0 - 1", "0", "1", "998", "999", "1000", "- 8192 * 8192 * 31", "8192 * 8192 * 31"};
        int[] bounded = {0, 0, 1, 998, 999, 999, 0, 999};
        for (int i = 0; i < es.length; i++) {
            WhichSwitch x = oneOf(4, 0, 0);
            row(x, 0, 2, 0);
            law(x, "glow " + es[i] + ";tone " + es[i] + ";load " + es[i] + ";");
            due("glow " + es[i], x.bright(0, 0), bounded[i]);
            due("tone " + es[i], x.wall(0, 0, 1), bounded[i]);
            due("load " + es[i], x.meter(0), bounded[i]);
        }
    }

    /** LAMP 0 of POWER 7, ROOM 3, MORE 5, in a ROW of two; LAMP 2 of POWER 2, ROOM 1, MORE 1; at HOUR 23. */
    private static WhichSwitch named() {
        WhichSwitch x = fused(3);
        x.lamp(1, 7, 300, 5);
        x.lamp(1, 1, 0, 5);
        x.lamp(0, 2, 100, 1);
        house(x, 0, 1, 2);
        x.set(1, 1);
        x.set(2, 23);
        return x;
    }

    private static void names() {
        says("glow, load of a LAMP: power, room, more: its own; row: its ROW; hour: THE HOUR; far 0.");
        String[] names = {"power", "room", "more", "row", "hour", "far"};
        int[] first = {7, 3, 5, 2, 23, 0};
        int[] third = {2, 1, 1, 1, 23, 0};
        for (int i = 0; i < names.length; i++) {
            WhichSwitch x = named();
            law(x, "glow " + names[i] + " * 2;tone 0;load " + names[i] + ";");
            due(names[i] + " in glow of LAMP 0", x.bright(0, 0), first[i]);
            due(names[i] + " in glow of LAMP 2", x.bright(0, 2), third[i] * 2);
            due(names[i] + " in load of LAMP 0", x.load(0, 0), first[i]);
            due(names[i] + " in load of LAMP 2", x.load(0, 2), third[i]);
        }

        says("tone: far: how many places off; room; hour; power, row, more 0.");
        WhichSwitch y = fused(1);
        y.lamp(1, 9, 0, 9);
        y.set(2, 23);
        row(y, 0, 2, 0);
        law(y, "glow 1;tone room * 100 + hour;load 1;");
        due("ROOM 5 at 23", y.wall(0, 5, 1), 523);
        due("ROOM 0 at 23", y.wall(0, 0, 1), 23);
        law(y, "glow 1;tone 5 + power * 100 + row * 10 + more;load 1;");
        due("power, row, more", y.wall(0, 0, 1), 5);
        law(y, "glow 1;tone far;load 1;");
        row(y, 0, 2, 0, 1, 2, 3);
        due("far 0 .. 3", y.wall(0, 0, 1), 0);
        due("from its first place", y.wall(0, 0, 0), 0);
        row(y, 0, 2, 3, 2, 1, 0);
        due("from its last place", y.wall(0, 0, 0), 3);
        due("far 3 .. 0", y.wall(0, 0, 1), 0);
    }

    private static void faults() {
        says("the place of the first byte of the first TOKEN that can't stand there");
        due("the first of all", fault(";"), -100);
        due("the second byte", fault(" ;"), -101);
        due("the third byte", fault("  ;"), -102);
        due("behind blanks", fault(" \n ;"), -103);
        due("the first of two", fault("glow 1 1 ; ?"), -107);
        due("the first byte of a WORD", fault("glow 1 tone"), -107);
        due("the first byte of a NUMBER", fault("glow 1 2345"), -107);

        says("(the text's size, if it ends too early)");
        String whole = "glow 1 + (2) ;tone 3;load 4;";
        int[] tokenEnds = {0, 4, 6, 8, 10, 11, 12, 14, 18, 20, 21, 25, 27};
        for (int n : tokenEnds) {
            due("ended after " + n, fault(whole.substring(0, n)), -100 - n);
            due("ended after " + n + " and blanks", fault(whole.substring(0, n) + " \n"), -102 - n);
        }
        due("whole", fault(whole), 1);

        says("also of a byte that begins none, of a WORD that is neither KEY nor NAME, a NUMBER that is too long");
        due("a byte", fault("glow 1 + 2 $"), -111);
        due("a WORD", fault("glow 1 + lux"), -109);
        due("a NUMBER", fault("glow 1 + 12345"), -109);
        due("a WORD unlike in its first letter", fault("glow 1 + cower"), -109);
        due("a WORD unlike in its last letter", fault("glow 1 + powes"), -109);
        due("a WORD that only begins like one", fault("glow 1 + powerful"), -109);
        due("a WORD like the begin of one", fault("glow 1 + powe"), -109);
        due("a WORD where none may stand", fault("glow 1 lux"), -107);
        due("a WORD behind a (", fault("glow ((lux));"), -107);
        due("a WORD behind a KEY", fault("glow lux;"), -105);
        due("a FAULT ahead of a byte", fault("glow 1 2 $"), -107);
        due("a byte ahead of a FAULT", fault("glow 1 $ 2"), -107);

        says("a ( , a not, a - ahead of a ONE while 5 of these are open (a ( till its ) , not and - till what they belong to ends).");
        due("5 (", glow("(((((8)))))"), 8);
        due("6 (", glow("((((((8))))))"), -110);
        due("5 not", glow("not not not not not 0"), 1);
        due("6 not", glow("not not not not not not 0"), -125);
        due("5 -", glow("9-----8"), 1);
        due("6 -", glow("9 + ------8"), -114);
        due("a - between isn't one", glow("9-----8-1"), 0);
        due("5 of three sorts", glow("not (-(not 1))"), 1);
        due("a - as the fifth", glow("not (-(-1))"), 0);
        due("a ( as the sixth", glow("not (-(not (1)))"), -116);
        due("a - as the sixth", glow("not (-(not -1))"), -116);
        due("a not as the sixth", glow("(((((not 1)))))"), -110);
        due("a ( is closed by its )", glow("(((((1))))) + (((((2)))))"), 3);
        due("a ( is open till its )", glow("(1 + ((((2 + (3))))))"), -118);
        due("a ( is open till its )", glow("(1 + ((((2 + 3)))))"), 6);
        due("a - ends with its ONE", glow("(((( - 1 + - 2 + (3) + 4 ))))"), 4);
        due("a - ends with its ( )", glow("- ( 1 ) + (((((2)))))"), 1);
        due("a - is open in its ( )", glow("- (((( - 1 ))))"), -112);
        due("a - is open in its ( )", glow("- ((( - 1 )))"), 1);
        due("a not ends ahead of and", glow("not 0 and (((((1)))))"), 1);
        due("a not ends ahead of or", glow("not 1 or (((((1)))))"), 1);
        due("a not is open over its =", glow("not 1 = (((((1)))))"), -117);
        due("a not is open over its =", glow("not 1 = ((((1))))"), 0);
        due("a not is open over its +", glow("not 1 + (((((1)))))"), -117);
        due("a not is open over its *", glow("not 1 * ((((0))))"), 1);
    }

    private static void laws() {
        says("TEXTS are numbered from 0 on, 6 at most");
        WhichSwitch x = new WhichSwitch();
        due("at first", x.count(9), 1);
        for (int t = 1; t < 6; t++) {
            due("a TEXT", text(x, "glow " + t + ";tone 1;load 1;"), t);
        }
        due("a seventh", text(x, "glow 6;tone 1;load 1;"), FULL);
        due("how many", x.count(9), 6);
        due("the last", x.force(5), 0);
        due("no such", x.force(6), BAD);

        about("five TEXTS of 159 bytes each, and as many FAULTS");
        x = oneOf(4, 0, 0);
        for (int t = 1; t < 6; t++) {
            String many = "+ 1".repeat(46);
            due("a FAULT", text(x, "glow " + t + many + ";tone 1;load 1"), -258);
            due("a TEXT", text(x, "glow " + t + many + ";tone 1;load 1;"), t);
        }
        for (int t = 1; t < 6; t++) {
            x.force(t);
            due("what TEXT " + t + " says", x.bright(0, 0), t + 46);
        }

        says("TEXT 0, at first, and THE LAW: glow power ; tone 90 - far * 7 ; load power + more ;");
        x = fused(1);
        x.lamp(4, 99, 500, 9);
        x.lamp(4, 1, 0, 0);
        house(x, 0, 0);
        x.set(2, 23);
        due("THE LAW at first", x.count(10), 0);
        due("glow power", x.bright(0, 0), 99);
        due("glow power", x.bright(0, 1), 1);
        due("load power + more", x.load(0, 0), 109);
        row(x, 0, 2, 90, 83, 76, 69, 62, 55, 48, 41, 34, 27, 20, 13, 6, 0, 0, 0);
        due("tone 90 - far * 7, to far 15", x.wall(0, 5, 1), 0);
        due("tone 90 - far * 7", x.wall(0, 0, 0), 0);
        law(x, "glow 1;tone 1;load 1;");
        due("another", x.bright(0, 0), 1);
        due("back to TEXT 0", x.force(0), 1);
        due("glow power", x.bright(0, 0), 99);
    }

    // ---- asks

    private static void asks() {
        says("ASKS are numbered from 0 on, 10 at most");
        WhichSwitch x = plain(2, 1);
        for (int k = 0; k < 10; k++) {
            due("ask(63, 0)", x.ask(63, 0), k);
        }
        due("an eleventh", x.ask(63, 0), FULL);
        due("how many", x.count(7), 10);

        says("which FUSES were OUT, SWITCHES ON, THE HOUR, as it was");
        x = fused(2);
        x.lamp(5, 1, 1, 0);
        house(x, 0);
        house(x, 1);
        x.set(0, 1);
        x.set(1, 1);
        x.set(2, 17);
        x.ask(1, 1);
        due("LET", x.lets(), 2);
        x.set(0, 3);
        due("with all OUT now", x.lets(), 2);
        x.set(0, 1);
        x.set(1, 0);
        due("with none ON now", x.lets(), 2);
        x.set(1, 1);
        x.set(2, 18);
        due("at another HOUR now", x.lets(), 2);

        says("in which ROOMS (bits) one looked; which LAMPS there were seen LIT (others there not).");
        x = fused(1);
        x.lamp(4, 1, 0, 0);
        x.lamp(4, 1, 500, 0);
        house(x, 0, 0);
        due("in ROOM 0", x.ask(1, 1), 0);
        due("LET", x.lets(), 1);
        due("in ROOM 5", x.ask(32, 2), 1);
        due("LET", x.lets(), 1);
        due("in ROOM 4", x.ask(16, 0), 2);
        due("LET", x.lets(), 1);
        due("none seen in ROOM 5", x.ask(32, 0), 3);
        due("LET", x.lets(), 0);
        due("of ROOM 5 in ROOM 0", x.ask(1, 2), BAD);
        due("in ROOM 6", x.ask(64, 0), BAD);

        says("A HOUSE is AMISS in LAMPS of these ROOMS that it, with what was OUT, ON and the HOUR then, shows otherwise.");
        due("shows what was seen", x.amiss(0, 0), 0);
        due("shows what wasn't seen", x.amiss(0, 3), 2);
        x.set(0, 1);
        x.ask(33, 1);
        due("does not show what was seen", x.amiss(0, 4), 1);

        says("LET are HOUSES that are AMISS in none of any ASK.");
        x = ofOne(2, 0, 1, 0, 1);
        due("no ASK", x.lets(), 15);
        x.set(0, 1);
        x.ask(1, 1);
        due("one ASK", x.lets(), 10);
        x.ask(1, 0);
        due("two that no HOUSE shows", x.lets(), 0);
        due("no HOUSE", new WhichSwitch().lets(), 0);
    }

    private static void parting() {
        says("with some FUSES OUT, SWITCHES ON and THE HOUR as now, looking in some ROOMS");
        WhichSwitch x = fused(2);
        x.lamp(5, 1, 1, 0);
        x.lamp(0, 1, 120, 0);
        house(x, 0, 0);
        house(x, 1, 0);
        due("SWITCHES OFF", x.parts(1, 63, 0), 1);
        x.set(1, 1);
        due("by night", x.parts(1, 63, 0), 1);
        x.set(2, 6);
        due("by day", x.parts(1, 63, 0), 2);
        due("looking elsewhere", x.parts(1, 62, 0), 1);
        due("none OUT", x.parts(0, 63, 0), 1);
        x.set(0, 1);
        due("what is OUT now is no matter", x.parts(0, 63, 0), 1);

        says("it PARTS HOUSES into KINDS, by which LAMPS there they show LIT.");
        x = ofTwo(0, 1, 10, 11, 0, 11);
        due("both, one, the other, none", x.parts(1, 1, 0), 4);
        due("the greatest", x.parts(1, 1, 1), 2);
        due("FUSES 0 and 1", x.parts(3, 1, 0), 1);
        due("all", x.parts(3, 1, 1), 6);

        says("the set of FUSES by which the greatest KIND has fewest; of like ones the fewest FUSES, then the least as bits.");
        x = ofOne(6, 3, 4, 4, 5, 5, 5);
        // {3}: 1 and 5; {4}: 2 and 4; {5}: 3 and 3; {3, 4}: 3 and 3
        due("one FUSE ahead of two", x.next(1, 2, 0), 32);
        due("its greatest KIND", x.next(1, 2, 1), 3);
        x = ofOne(6, 0, 1, 2, 3, 4, 5);
        due("the least three of six", x.next(1, 6, 0), 7);
        due("the least two of six", x.next(1, 2, 0), 3);
        due("the least one of six", x.next(1, 1, 0), 1);
        due("none of six", x.next(1, 0, 0), 0);
        x = ofOne(6, 5, 5, 4, 4, 3);
        due("two of like ones: 4 ahead of 5", x.next(1, 1, 0), 16);

        says("so many OUT");
        x = ofOne(6, 0, 1, 2, 3, 4, 5);
        int[] greatest = {6, 5, 4, 3, 3, 3, 3};
        for (int most = 0; most <= 6; most++) {
            due("at most " + most, x.next(1, most, 1), greatest[most]);
        }
    }

    private static void aheads() {
        says("TWO AHEAD: a set of at most 2 FUSES; behind it, whatever KIND is left, NEXT for that KIND (2 at most)");
        WhichSwitch x = ofTwo(22, 5, 41, 20, 50, 24, 21, 35, 55, 33, 34);
        due("three OUT at first would leave 1", x.ahead(63, 1), 2);
        due("the least set that leaves 2", x.ahead(63, 0), 3);
        x = ofTwo(45, 52, 23, 21, 42, 40, 3, 24, 0, 33, 13, 22);
        due("three OUT behind it would leave 1", x.ahead(63, 1), 2);
        x = ofOne(2, 0, 0, 0);
        due("none OUT at all", x.ahead(1, 0), 0);
        due("three alike", x.ahead(1, 1), 3);

        says("how many are left in its greatest KIND, at most over all; the set by which that is least; of like ones the least as bits.");
        x = ofOne(4, 0, 1, 1, 2, 2, 3);
        // {0} leaves 1 and 5, of 5 then 3; {1} leaves 2 and 4, of 4 then 2, of 2 then 2
        due("the least left", x.ahead(1, 1), 2);
        due("the least as bits", x.ahead(1, 0), 2);
        x = ofOne(4, 2, 3);
        due("both by NEXT: none OUT at first", x.ahead(1, 0), 0);
        due("both by NEXT: one is left", x.ahead(1, 1), 1);
        x = ofOne(4, 0, 1, 2, 3);
        // {0, 1} is 3 as bits, less than {2} that is 4: {2} leaves 3, of which 2 stay
        due("two FUSES ahead of a greater one", x.ahead(1, 0), 3);
        due("one is left", x.ahead(1, 1), 1);
    }

    private static void wires() {
        says("SUMS of a ROOM: POWERS of a set of its LAMPS together.");
        WhichSwitch x = fused(1);
        x.lamp(0, 99, 500, 0);
        x.lamp(0, 98, 400, 0);
        x.lamp(0, 1, 500, 0);
        due("0, 1, 99, 100", x.sums(5), 4);
        due("0, 98", x.sums(4), 2);
        due("no LAMP: 0", x.sums(0), 1);
        due("both", x.which(5, 100), 5);
        due("none", x.which(5, 0), 0);

        says("NEW WIRES in a HOUSE: FUSE by FUSE, all OUT at first; the wires of each take TAKES, then it is back.");
        x = new WhichSwitch();
        x.fuse(1, 99);
        x.fuse(1, 1);
        x.lamp(0, 99, 0, 0);
        x.lamp(0, 1, 0, 0);
        house(x, 0, 1);
        // 99 by 99 and 1 by 1 are like ones
        due("the first of like ones", x.order(0, 0), 12);
        due("back at 99 and 100", x.order(0, 1), 99 * 99 + 100);
        x.set(0, 3);
        due("what is OUT is no matter", x.order(0, 1), 99 * 99 + 100);

        says("DARK: for each FUSE all POWER that it feeds times when it is back, together.");
        x = new WhichSwitch();
        for (int f = 0; f < 6; f++) {
            x.fuse(1, 99);
        }
        for (int l = 0; l < 10; l++) {
            x.lamp(0, 99, 0, 0);
        }
        house(x, 5, 5, 5, 5, 5, 5, 5, 5, 5, 5);
        house(x, 0, 1, 2, 3, 4, 5, 5, 5, 5, 5);
        due("the last FUSE first", x.order(0, 0), 612345);
        due("ten of 99 at 99", x.order(0, 1), 990 * 99);
        due("FUSE 5 first", x.order(1, 0), 612345);
        due("5 at 99, then one each", x.order(1, 1), 99L * 99 * (5 + 2 + 3 + 4 + 5 + 6));

        says("as a fraction); of like ones the least.");
        x = new WhichSwitch();
        x.fuse(1, 99);
        x.fuse(1, 98);
        x.fuse(1, 2);
        x.fuse(1, 4);
        x.lamp(0, 98, 0, 0);
        x.lamp(0, 97, 0, 0);
        x.lamp(0, 3, 0, 0);
        x.lamp(0, 6, 0, 0);
        house(x, 0, 1, 2, 3);
        // 3 by 2 and 6 by 4, then 98 by 99, then 97 by 98
        due("by fractions", x.order(0, 0), 3412);
        house(x, 1, 0, 2, 3);
        due("98 by 98 ahead of 97 by 99", x.order(1, 0), 3421);
        house(x, 3, 3, 3, 3);
        due("none by all others", x.order(2, 0), 4123);
    }

    private static void images() {
        says("AN IMAGE keeps what is OUT, ON, THE HOUR, SLIPS, all ASKS, THE LAW.");
        WhichSwitch x = plain(1, 1);
        house(x, 0);
        text(x, "glow 3;tone 0;load 0;");
        x.set(0, 1);
        x.set(2, 22);
        x.set(3, 33);
        x.force(1);
        x.ask(1, 0);
        due("image()", x.image(), 1);
        x.set(0, 0);
        x.set(1, 0);
        x.set(2, 0);
        x.set(3, 0);
        x.force(0);
        x.forget();
        due("back()", x.back(), 1);
        int[] kept = {1, 1, 22, 33};
        for (int what = 0; what < 4; what++) {
            due("count(" + what + ")", x.count(what), kept[what]);
        }
        due("ASKS", x.count(7), 1);
        due("THE LAW", x.count(10), 1);
        due("amiss(0, 0)", x.amiss(0, 0), 0);

        about("all that an ASK keeps is as in THE IMAGE");
        WhichSwitch y = fused(2);
        y.lamp(5, 1, 1, 0);
        y.lamp(0, 1, 102, 0);
        house(y, 0, 1);
        house(y, 1, 0);
        y.set(0, 2);
        y.set(1, 1);
        y.set(2, 12);
        y.ask(1, 1);
        y.image();
        y.forget();
        y.set(0, 1);
        y.set(1, 0);
        y.set(2, 1);
        y.ask(3, 0);
        due("LET by another ASK", y.lets(), 3);
        y.back();
        due("LET as it was", y.lets(), 1);
        due("amiss(0, 0)", y.amiss(0, 0), 0);
        due("amiss(1, 0)", y.amiss(1, 0), 1);
    }

    // ---- sheets

    private static void sheets() {
        says("SHEETS 0 .. 3 are rows of numbers, or missing (as all are at first)");
        WhichSwitch x = new WhichSwitch();
        for (int s = 0; s < 4; s++) {
            due("at first", x.cell(s, 0, 0), -11);
            due("SHEET " + s, x.sheet(s, 0, 1), 1);
            due("not missing", x.cell(s, 0, 0), 1);
        }
        due("SHEET 4", x.sheet(4, 0, 1), BAD);
        due("SHEET -1", x.sheet(-1, 0, 1), BAD);
        due("made missing", x.sheet(3, -1, 0), 1);
        due("missing", x.cell(3, 0, 0), -11);

        says("of sort 0 bytes, 1 shorts, 2 ints, 40 at most.");
        due("sort 3", x.sheet(0, 3, 1), BAD);
        due("sort -2", x.sheet(0, -2, 1), BAD);
        for (int sort = 0; sort < 3; sort++) {
            due("41", x.sheet(0, sort, 41), BAD);
            due("40", x.sheet(0, sort, 40), 1);
            due("the last", x.cell(0, 39, 1), 1);
            due("beyond", x.cell(0, 40, 1), -12);
            due("0", x.sheet(0, sort, 0), 1);
            due("of none", x.cell(0, 0, 1), -12);
        }
        int[] highest = {127, 32767, MAX};
        for (int sort = 0; sort < 3; sort++) {
            row(x, 0, sort, 0, 5, 0, highest[sort], 0, 5, 0, highest[sort] + 1);
            x.cell(0, 3, 9);
            due("sort " + sort + " is one of it", x.lampsBy(0, sort, 0, 1), 1);
            due("beyond the highest is the lowest", x.lampsBy(0, sort, 4, 1), 0);
            for (int other = 0; other < 3; other++) {
                due("as sort " + other, x.lampsBy(0, other, 0, 0), other == sort ? 0 : -13);
            }
        }
        row(x, 0, 0, 999);
        due("999 as a byte is below 0", x.wall(0, 0, 0), BAD);
        row(x, 0, 1, 999);
        due("999 as a short", x.wall(0, 0, 1), 909);
    }

    public static void main(String[] args) {
        face();
        fuses();
        switches();
        lamps();
        houses();
        joins();
        stairs();
        borrowed();
        rows();
        tape();
        tokens();
        signs();
        texts();
        values();
        names();
        faults();
        laws();
        asks();
        parting();
        aheads();
        wires();
        images();
        sheets();
        end("the face and Terms");
    }
}
