/** One method for each promise: ordinary inputs, the edges that the document names, wrong inputs. */
public final class PromisesTest extends Checks {
    /** A house of the largest kind: LAMP l of HOUSE h on FUSE (h + l) % 6. */
    private static WhichSwitch largest() {
        WhichSwitch x = plain(6, 10);
        for (int h = 0; h < 12; h++) {
            int[] fuses = new int[10];
            for (int l = 0; l < 10; l++) {
                fuses[l] = (h + l) % 6;
            }
            due("house()", house(x, fuses), h);
        }
        return x;
    }

    private static void large() {
        WhichSwitch x = largest();
        due("a thirteenth", house(x, 0, 0, 0, 0, 0, 0, 0, 0, 0, 0), -4);
        due("show(11)", x.show(11), 1023);
        due("room(11, 0)", x.room(11, 0), 100);
        due("nothing(11)", x.nothing(11), 254);
        due("fedBy(11, 9)", x.fedBy(11, 9), 2);
        due("sums(0)", x.sums(0), 11);
        due("which(0, 100)", x.which(0, 100), 1023);
        due("which(0, 50)", x.which(0, 50), -3);
        due("put(0)", x.put(0), -1);
        due("grey()", x.grey(), 1023);
        due("thick(11, 5)", x.thick(11, 5), 20);
        due("load(11, 5)", x.load(11, 5), 20);
        due("over(11)", x.over(11), 0);
        due("meter(11)", x.meter(11), 100);
        due("witness(100, 0)", x.witness(100, 0), 4095);
        due("order(0, 0)", x.order(0, 0), 123456);
        due("order(11, 0)", x.order(11, 0), 123645);
        due("order(0, 1)", x.order(0, 1), 20 + 40 + 60 + 80 + 50 + 60);
        due("broken(11, 63, 511)", x.broken(11, 63, 511), 512);
        due("broken(11, 63, 1023)", x.broken(11, 63, 1023), 0);
        due("next(63, 6, 0)", x.next(63, 6, 0), 1);
        due("next(63, 6, 1)", x.next(63, 6, 1), 2);
        due("ahead(63, 1)", x.ahead(63, 1), 2);
        due("ahead(63, 0)", x.ahead(63, 0), 0);
        due("plan(11, 63, 6)", x.plan(11, 63, 6), -1);
        due("parts(63, 63, 1)", x.parts(63, 63, 1), 12);
        due("bound()", x.bound(), 4);
        due("dead(9)", x.dead(9), 63);
        due("live(9, 62)", x.live(9, 62), 1 << 3 | 1 << 9);
        x.set(0, 63);
        due("touch()", x.touch(), 1023);
        due("drawn(0, 63, 1)", x.drawn(0, 63, 1), 0);
        for (int k = 0; k < 10; k++) {
            due("ask(63, 512)", x.ask(63, 512), k);
        }
        due("miss(11)", x.miss(11), 10);
        due("amiss(11, 9)", x.amiss(11, 9), 512);
        due("near(9)", x.near(9), 0);
        due("near(10)", x.near(10), 4095);
    }

    // ---- fuses, lamps, what is out and on

    private static void p01() {
        WhichSwitch x = new WhichSwitch();
        int[] counts = {0, 0, 0, 0, 0, 0, 0, 0, 0, 1, 0, 0};
        for (int what = 0; what < counts.length; what++) {
            due("count(" + what + ")", x.count(what), counts[what]);
        }
        due("show(0)", x.show(0), -5);
        due("taken(0, 6)", x.taken(0, 6), -11);
        due("taken(6, 0)", x.taken(6, 0), -11);
        for (int s = 0; s < 4; s++) {
            due("cell of a missing SHEET", x.cell(s, 0, 0), -11);
        }
        due("back()", x.back(), -3);
        due("NONE", WhichSwitch.NONE, -1);
        due("BAD", WhichSwitch.BAD, -2);
        due("STATE", WhichSwitch.STATE, -3);
        due("FULL", WhichSwitch.FULL, -4);
        due("NO", WhichSwitch.NO, -(1L << 62));
    }

    private static void p02() {
        WhichSwitch x = new WhichSwitch();
        due("fuse(-1, 1)", x.fuse(-1, 1), -2);
        due("fuse(1000, 1)", x.fuse(1000, 1), -2);
        due("fuse(0, 0)", x.fuse(0, 0), -2);
        due("fuse(0, 100)", x.fuse(0, 100), -2);
        due("fuse(MIN, MAX)", x.fuse(Integer.MIN_VALUE, Integer.MAX_VALUE), -2);
        due("fuse(0, 1)", x.fuse(0, 1), 0);
        due("fuse(999, 99)", x.fuse(999, 99), 1);
        for (int f = 2; f < 6; f++) {
            due("fuse(f, 5)", x.fuse(f, 5), f);
        }
        due("fuse(5, 5), a seventh", x.fuse(5, 5), -4);
        due("fuse(-5, 5), a seventh", x.fuse(-5, 5), -2);
        due("count(4)", x.count(4), 6);
        due("taken(1, 6)", x.taken(1, 6), 999);
        due("taken(5, 6)", x.taken(5, 6), 5);
    }

    private static void p03() {
        WhichSwitch x = new WhichSwitch();
        due("set(0, 1) without FUSES", x.set(0, 1), -2);
        due("set(0, 0) without FUSES", x.set(0, 0), 0);
        x.fuse(1, 1);
        x.fuse(1, 1);
        due("set(0, 4)", x.set(0, 4), -2);
        due("set(0, -1)", x.set(0, -1), -2);
        due("set(0, 3)", x.set(0, 3), 0);
        due("set(0, 2)", x.set(0, 2), 3);
        due("set(0, MIN)", x.set(0, Integer.MIN_VALUE), -2);
        due("set(1, 256)", x.set(1, 256), -2);
        due("set(1, -1)", x.set(1, -1), -2);
        due("set(1, 255)", x.set(1, 255), 0);
        due("set(1, 7)", x.set(1, 7), 255);
        due("set(2, 24)", x.set(2, 24), -2);
        due("set(2, -1)", x.set(2, -1), -2);
        due("set(2, 23)", x.set(2, 23), 0);
        due("set(2, 4)", x.set(2, 4), 23);
        due("set(3, 100)", x.set(3, 100), -2);
        due("set(3, -1)", x.set(3, -1), -2);
        due("set(3, 99)", x.set(3, 99), 0);
        due("set(3, 5)", x.set(3, 5), 99);
        due("set(4, 0)", x.set(4, 0), -1);
        due("set(-1, -1)", x.set(-1, -1), -1);
        int[] is = {2, 7, 4, 5};
        for (int what = 0; what < 4; what++) {
            due("count(" + what + ")", x.count(what), is[what]);
        }
    }

    private static void p04() {
        WhichSwitch x = plain(3, 2);
        x.set(0, 5);
        x.set(2, 11);
        x.set(3, 12);
        house(x, 0, 1);
        house(x, 0, 1);
        house(x, 0, 1);
        x.ask(0, 0);
        label(x, 1, 0, 0);
        label(x, 1, 0, 0);
        law(x, "glow 1;tone 1;load 1;");
        text(x, "glow 1;tone 1;load 1;");
        feed(x, "abcde");
        int[] counts = {5, 1, 11, 12, 3, 2, 3, 1, 2, 3, 1, 5};
        for (int what = 0; what < counts.length; what++) {
            due("count(" + what + ")", x.count(what), counts[what]);
        }
        due("count(-1)", x.count(-1), -2);
        due("count(12)", x.count(12), -2);
        due("count(MAX)", x.count(Integer.MAX_VALUE), -2);
    }

    private static void p05() {
        WhichSwitch x = new WhichSwitch();
        due("lamp(-1, 1, 0, 0)", x.lamp(-1, 1, 0, 0), -2);
        due("lamp(6, 1, 0, 0)", x.lamp(6, 1, 0, 0), -2);
        due("lamp(0, 0, 0, 0)", x.lamp(0, 0, 0, 0), -2);
        due("lamp(0, 100, 0, 0)", x.lamp(0, 100, 0, 0), -2);
        due("lamp(0, 1, -1, 0)", x.lamp(0, 1, -1, 0), -2);
        due("lamp(0, 1, 600, 0)", x.lamp(0, 1, 600, 0), -2);
        due("lamp(0, 1, 580, 0)", x.lamp(0, 1, 580, 0), -2);
        due("lamp(0, 1, 508, 0)", x.lamp(0, 1, 508, 0), -2);
        due("lamp(0, 1, 0, -1)", x.lamp(0, 1, 0, -1), -2);
        due("lamp(0, 1, 0, 10)", x.lamp(0, 1, 0, 10), -2);
        due("lamp(5, 99, 577, 9)", x.lamp(5, 99, 577, 9), 0);
        for (int l = 1; l < 10; l++) {
            due("lamp(3, 1, 0, l)", x.lamp(3, 1, 0, l), l);
        }
        due("an eleventh", x.lamp(0, 1, 0, 0), -4);
        due("a bad eleventh", x.lamp(0, 1, 0, 10), -2);
        x.ask(0, 0);
        due("an eleventh with ASKS", x.lamp(0, 1, 0, 0), -4);
        WhichSwitch asked = fused(1);
        asked.ask(0, 0);
        due("with an ASK", asked.lamp(0, 1, 0, 0), -3);
        due("bad with an ASK", asked.lamp(0, 0, 0, 0), -2);
        asked.forget();
        due("with the ASK forgotten", asked.lamp(0, 1, 0, 0), 0);
        label(asked, 1, 0);
        due("with a LABEL", asked.lamp(0, 1, 0, 0), -3);
        WhichSwitch housed = fused(1);
        house(housed);
        due("with a HOUSE", housed.lamp(0, 1, 0, 0), -3);
        due("count(5)", housed.count(5), 0);
    }

    private static void p06() {
        WhichSwitch x = new WhichSwitch();
        x.lamp(0, 1, 0, 0);
        x.lamp(3, 98, 467, 8);
        int[] told = {3, 98, 4, 6, 7, 8};
        for (int what = 0; what < 6; what++) {
            due("lampTold(1, " + what + ")", x.lampTold(1, what), told[what]);
        }
        due("lampTold(0, 1)", x.lampTold(0, 1), 1);
        due("lampTold(1, 6)", x.lampTold(1, 6), -7);
        due("lampTold(1, -1)", x.lampTold(1, -1), -7);
        due("lampTold(2, 6)", x.lampTold(2, 6), -5);
        due("lampTold(-1, 0)", x.lampTold(-1, 0), -5);
    }

    // ---- the law

    private static void p07() {
        WhichSwitch x = new WhichSwitch();
        due("feed(0, 0)", x.feed(0, 0), -2);
        due("feed(0, 9)", x.feed(0, 9), -2);
        due("feed(0, -1)", x.feed(0, -1), -2);
        // "glow" and " power ;", with bytes above the lowest four that do not count
        due("feed glow", x.feed(0x7A7A7A7A676C6F77L, 4), 4);
        due("feed of 8", x.feed(0x20706F776572203BL, 8), 12);
        feed(x, "tone 0;load 0;");
        due("text()", x.text(), 1);
        due("count(11)", x.count(11), 0);
        for (int i = 1; i <= 19; i++) {
            due("feed(0, 8)", x.feed(0, 8), 8 * i);
        }
        due("feed(0, 7)", x.feed(0, 7), 159);
        due("feed(0, 2), too many", x.feed(0, 2), -4);
        due("feed(0, 9), too many", x.feed(0, 9), -2);
        due("count(11)", x.count(11), 159);
        due("feed(0, 1)", x.feed(0, 1), 160);
        due("feed(0, 1), too many", x.feed(0, 1), -4);
    }

    private static void p08() {
        p08says();
        p08faults();
        p08open();
        WhichSwitch y = new WhichSwitch();
        due("longer", text(y, "glow 1;tone 1;load 12;"), 1);
        due("shorter", text(y, "glow 1;tone 1;load 1"), -120);
        due("longer", text(y, "glow 1;tone 1;load power;"), 2);
        due("shorter", text(y, "glow 1;tone 1;load powe"), -119);
        due("shorter", text(y, "glow 1;tone 1;load 1;"), 3);
        WhichSwitch x = new WhichSwitch();
        due("text() of nothing", x.text(), -100);
        due("a FAULT", text(x, "glow 1;tone 1;loads 1;"), -114);
        due("THE TAPE after a FAULT", x.count(11), 0);
        for (int t = 1; t < 6; t++) {
            due("a TEXT", text(x, "glow 1;tone 1;load " + t + ";"), t);
            due("THE TAPE after a TEXT", x.count(11), 0);
        }
        due("THE LAW is as it was", x.count(10), 0);
        feed(x, "glow");
        due("a seventh, with a FAULT", x.text(), -4);
        due("THE TAPE stays", x.count(11), 4);
        x.fuse(1, 1);
        x.lamp(4, 1, 0, 0);
        house(x, 0);
        for (int t = 1; t < 6; t++) {
            x.force(t);
            due("what it says", x.meter(0), t);
        }
    }

    private static void p08says() {
        due("power", glow("power"), 7);
        due("row", glow("row"), 1);
        due("hour", glow("hour"), 9);
        due("room", glow("room"), 2);
        due("more", glow("more"), 5);
        due("far", glow("far"), 0);
        due("9999", glow("9999"), 999);
        due("0007", glow("0007"), 7);
        due("- 1", glow("- 1"), 0);
        due("1 - 2 + 9", glow("1 - 2 + 9"), 8);
        due("9 - 2 - 3", glow("9 - 2 - 3"), 4);
        due("2 + 3 * 4", glow("2 + 3 * 4"), 14);
        due("(2 + 3) * 4", glow("(2 + 3) * 4"), 20);
        due("- 2 * - 3", glow("- 2 * - 3"), 6);
        due("9 - - 3", glow("9 - - 3"), 12);
        due("9--3", glow("9--3"), 12);
        due("2 < 3", glow("2 < 3"), 1);
        due("3 < 3", glow("3 < 3"), 0);
        due("- 4 < 3", glow("- 4 < 3"), 1);
        due("3 = 3", glow("3 = 3"), 1);
        due("3 = 4", glow("3 = 4"), 0);
        due("1 + 2 = 3", glow("1 + 2 = 3"), 1);
        due("5 or 0", glow("5 or 0"), 1);
        due("0 or 0", glow("0 or 0"), 0);
        due("0 or 7", glow("0 or 7"), 1);
        due("5 and 3", glow("5 and 3"), 1);
        due("5 and 0", glow("5 and 0"), 0);
        due("- 1 and 1", glow("- 1 and 1"), 1);
        due("not 5", glow("not 5"), 0);
        due("not 0", glow("not 0"), 1);
        due("not not 5", glow("not not 5"), 1);
        due("not 1 = 2", glow("not 1 = 2"), 1);
        due("1 or 0 and 0", glow("1 or 0 and 0"), 1);
        due("(1 or 0) and 0", glow("(1 or 0) and 0"), 0);
        due("not 1 or 1", glow("not 1 or 1"), 1);
        due("not 0 and 0", glow("not 0 and 0"), 0);
        due("(2 < 3) < 1", glow("(2 < 3) < 1"), 0);
        due("(not 0) * 6", glow("(not 0) * 6"), 6);
        // 65536 * 65536 is 0, 65536 * 32768 is the least int
        due("wraps to 0", glow("(8192 * 8 * 8192 * 8) + 3"), 3);
        due("wraps below 0", glow("8192 * 8 * 8192 * 4"), 0);
        due("wraps back", glow("8192 * 8 * 8192 * 4 - 1"), 999);
        due("blanks of both kinds", glow("\n( 1\n+ 2 )\n \n"), 3);
        due("no blanks", glow("(1+2)*power"), 21);
    }

    private static void p08faults() {
        due("too early", fault("glow 1;tone 2;load 3"), -120);
        due("too early, blanks behind", fault("glow 1;tone 2;load 3 \n"), -122);
        due("too early, at an E", fault("glow 1;tone 2;load"), -118);
        due("only blanks", fault("   "), -103);
        due("blanks behind the end", fault("glow 1;tone 2;load 3; \n "), 1);
        due("a token behind the end", fault("glow 1;tone 2;load 3; 4"), -122);
        due("a sign behind the end", fault("glow 1;tone 2;load 3;;"), -121);
        due("tone first", fault("tone 1;"), -100);
        due("glow twice", fault("glow 1;glow 1;"), -107);
        due("no E", fault("glow ;"), -105);
        due("a KEY in an E", fault("glow load ;"), -105);
        due("a NAME too long", fault("glow powers;"), -105);
        due("a NAME cut", fault("glow powe;"), -105);
        due("a word unlike in its first letter", fault("blow 1;"), -100);
        due("no NAME in (", fault("glow ((powe));"), -107);
        due("no NAME behind +", fault("glow 1 + powe;"), -109);
        due("words grown together", fault("glowpower;"), -100);
        due("a number and a word", fault("glow 1power;"), -106);
        due("number number", fault("glow 12 34;"), -108);
        due("a NUMBER too long", fault("glow 1 + 00001;"), -109);
        due("a byte that begins none", fault("glow 1 + ?;"), -109);
        due("a capital", fault("Glow 1;"), -100);
        due("a tab", fault("glow\t1;"), -104);
        due("a byte above 127", fault("glow 1" + (char) 233), -106);
        due("< twice", fault("glow 1 < 2 < 3;"), -111);
        due("= behind <", fault("glow 1 < 2 = 3;"), -111);
        due("not behind +", fault("glow 1 + not 2;"), -109);
        due("not behind <", fault("glow 1 < not 2;"), -109);
        due("not behind -", fault("glow - not 2;"), -107);
        due("+ ahead", fault("glow + 2;"), -105);
        due("* *", fault("glow 2 * * 2;"), -109);
        due("and and", fault("glow 2 and and 2;"), -111);
        due("or at the end", fault("glow 2 or ;"), -110);
        due("( )", fault("glow ( );"), -107);
        due("( not closed", fault("glow (1;"), -107);
        due(") not opened", fault("glow 1);"), -106);
        due("; missing", fault("glow 1 tone 2;"), -107);
        due("the first of two", fault("glow ; ?"), -105);
        due("a + NUMBER too long that can't stand there", fault("glow 1 12345;"), -107);
        due("160 bytes", fault("glow 1;tone 2;load 3;" + " ".repeat(139)), 1);
    }

    private static void p08open() {
        due("5 (", glow("(".repeat(5) + "3" + ")".repeat(5)), 3);
        due("6 (", glow("(".repeat(6) + "3" + ")".repeat(6)), -110);
        due("5 not", glow("not ".repeat(5) + "0"), 1);
        due("6 not", glow("not ".repeat(6) + "0"), -125);
        due("4 -", glow("- ".repeat(4) + "3"), 3);
        due("5 -", glow("- ".repeat(5) + "3"), 0);
        due("6 -", glow("- ".repeat(6) + "3"), -115);
        due("mixed", glow("not ( - ( - 3 ) )"), 0);
        due("mixed, one more (", glow("not ( - ( - ( 3 ) ) )"), -117);
        due("mixed, one more -", glow("not ( - ( - - 3 ) )"), -117);
        due("mixed, one more not", glow("((((( not 3 )))))"), -111);
        due("- ends with its ONE", glow("- 1 * - 2 * - 3 * - 4 * - 5 * - 6"), 720);
        due("- ends with its ONE in (", glow("((((- 1 * - 2 * - 3))))"), 0);
        due("not ends with its NOT", glow("not 0 and not 0 and not 0 and not 0 and not 0 and not 0"), 1);
        due("( ends with its )", glow("(1)+(1)+(1)+(1)+(1)+(1)"), 6);
        due("a - between is not open", glow("(((((9 - 1 - 1 - 1)))))"), 6);
        due("not is open over its < too", glow("not 1 < ((((2))))"), 0);
        due("not is open over its < too, 6", glow("not 1 < (((((2)))))"), -117);
        due("not isn't open behind its and", glow("not 1 and (((((2)))))"), 0);
    }

    private static void p09() {
        WhichSwitch x = new WhichSwitch();
        due("force(0)", x.force(0), 0);
        due("force(1)", x.force(1), -2);
        due("force(-1)", x.force(-1), -2);
        text(x, "glow 1;tone 1;load 1;");
        text(x, "glow 2;tone 1;load 1;");
        due("force(2)", x.force(2), 0);
        due("force(3)", x.force(3), -2);
        due("force(1)", x.force(1), 2);
        due("count(10)", x.count(10), 1);
        due("force(0)", x.force(0), 1);
    }

    // ---- houses

    private static void p10() {
        WhichSwitch x = plain(2, 2);
        due("house(-1)", x.house(-1), -2);
        due("house(4)", x.house(4), -2);
        due("house(0), missing", x.house(0), -11);
        row(x, 0, 2, 0);
        due("too short", x.house(0), -2);
        row(x, 0, 2, 0, 0, 0);
        due("too long", x.house(0), -2);
        row(x, 0, 2, 0, 2);
        due("no such FUSE", x.house(0), -2);
        row(x, 0, 2, -1, 0);
        due("a FUSE below 0", x.house(0), -2);
        row(x, 0, 0, 0, 1);
        due("of bytes", x.house(0), 0);
        row(x, 0, 1, 1, 0);
        due("of shorts", x.house(0), 1);
        due("count(6)", x.count(6), 2);
        row(x, 0, 2, 1, 1);
        for (int h = 2; h < 12; h++) {
            due("house(0)", x.house(0), h);
        }
        due("a thirteenth", x.house(0), -4);
        row(x, 0, 2, 1, 2);
        due("a bad thirteenth", x.house(0), -2);
        x.sheet(0, -1, 0);
        due("a thirteenth by none", x.house(0), -11);
        due("the SHEET is not kept", x.fedBy(1, 0) * 10 + x.fedBy(1, 1), 10);
        WhichSwitch none = new WhichSwitch();
        none.lamp(0, 1, 0, 0);
        row(none, 0, 2, 0);
        due("no FUSE at all", none.house(0), -2);
    }

    private static void p11() {
        WhichSwitch x = plain(3, 2);
        house(x, 0, 2);
        house(x, 1, 0);
        due("fedBy(0, 0)", x.fedBy(0, 0), 0);
        due("fedBy(0, 1)", x.fedBy(0, 1), 2);
        due("fedBy(1, 0)", x.fedBy(1, 0), 1);
        due("fedBy(2, 0)", x.fedBy(2, 0), -5);
        due("fedBy(-1, 0)", x.fedBy(-1, 0), -5);
        due("fedBy(0, 2)", x.fedBy(0, 2), -5);
        due("fedBy(0, -1)", x.fedBy(0, -1), -5);
    }

    private static void p12() {
        WhichSwitch x = fused(2);
        x.lamp(0, 1, 12, 0);
        x.lamp(1, 1, 12, 0);
        x.lamp(2, 1, 12, 0);
        x.lamp(2, 1, 33, 0);
        x.lamp(3, 1, 12, 1);
        x.lamp(3, 1, 12, 4);
        x.lamp(4, 1, 12, 0);
        x.lamp(5, 1, 12, 0);
        house(x, 0, 0, 0, 0, 0, 0, 0, 0);
        due("all off", x.show(0), 64);
        x.set(1, 2);
        due("X alone, at night", x.show(0), 1 + 2 + 4 + 16 + 32 + 64);
        x.set(1, 4);
        due("Y alone", x.show(0), 4 + 64);
        x.set(1, 6);
        due("X and Y", x.show(0), 1 + 2 + 16 + 32 + 64);
        x.set(1, 8);
        due("a STAIR of one SWITCH", x.show(0), 64);
        x.set(1, 2);
        for (int hour = 0; hour < 24; hour++) {
            x.set(2, hour);
            boolean day = hour == 6 || hour == 17 || hour > 6 && hour < 17;
            due("TIMED at " + hour, x.show(0) >> 7, day ? 1 : 0);
        }
        x.set(2, 12);
        x.set(1, 6);
        due("TIMED, X and Y", x.show(0) >> 7, 0);
        x.set(1, 4);
        due("TIMED, Y", x.show(0) >> 7, 1);
        x.set(2, 0);
        x.set(1, 2);
        x.set(0, 1);
        due("the FUSE OUT", x.show(0), 16);
        x.set(0, 2);
        due("the lender OUT", x.show(0), 1 + 2 + 4 + 16 + 32 + 64);
        x.set(0, 3);
        due("both OUT", x.show(0), 0);
        x.set(0, 1);
        x.fuse(1, 1);
        x.fuse(1, 1);
        due("FUSE 4 isn't there", x.show(0), 16);
        x.fuse(1, 1);
        due("FUSE 4 is there", x.show(0), 16 + 32);
        x.set(0, 17);
        due("FUSE 4 is OUT", x.show(0), 16);
        due("show(1)", x.show(1), -5);
        due("show(-1)", x.show(-1), -5);
    }

    private static void p13() {
        WhichSwitch x = fused(2);
        x.lamp(1, 10, 0, 3);
        x.lamp(1, 20, 111, 3);
        x.lamp(1, 30, 0, 4);
        x.lamp(0, 40, 0, 3);
        x.lamp(1, 50, 200, 3);
        house(x, 0, 1, 0, 0, 0);
        x.set(1, 1);
        due("two in the row", x.bright(0, 0), 5);
        due("not LIT", x.bright(0, 1), 0);
        due("another row", x.bright(0, 2), 30);
        due("a JOIN", x.bright(0, 3), 40);
        due("two in the row, another ROOM", x.bright(0, 4), 25);
        x.set(1, 3);
        due("three in the row, cut", x.bright(0, 0), 3);
        due("three in the row, 6 and 2 thirds", x.bright(0, 1), 6);
        x.set(0, 2);
        due("one's FUSE OUT", x.bright(0, 0), 5);
        x.set(0, 0);
        law(x, "glow row * 100 + more;tone 0;load 0;");
        due("by its ROW", x.bright(0, 0), 101);
        due("a JOIN's ROW", x.bright(0, 3), 103);
        law(x, "glow 500 * row;tone 0;load 0;");
        due("the bound, then its part", x.bright(0, 0), 333);
        law(x, "glow - 5;tone 0;load 0;");
        due("below 0", x.bright(0, 0), 0);
        due("bright(1, 0)", x.bright(1, 0), -5);
        due("bright(-1, 0)", x.bright(-1, 0), -5);
        due("bright(0, 5)", x.bright(0, 5), -5);
        due("bright(0, -1)", x.bright(0, -1), -5);
    }

    private static void p14() {
        WhichSwitch x = fused(1);
        x.lamp(0, 10, 0, 0);
        x.lamp(0, 20, 511, 0);
        x.lamp(0, 40, 500, 0);
        x.lamp(0, 80, 500, 0);
        house(x, 0, 0, 0, 0);
        x.set(1, 1);
        due("room(0, 0)", x.room(0, 0), 10);
        due("room(0, 5)", x.room(0, 5), 120);
        due("room(0, 1)", x.room(0, 1), 0);
        x.set(1, 3);
        due("room(0, 5)", x.room(0, 5), 140);
        law(x, "glow 600;tone 0;load 0;");
        due("bounds are each one's", x.room(0, 5), 1800);
        due("room(0, 6)", x.room(0, 6), -7);
        due("room(0, -1)", x.room(0, -1), -7);
        due("room(1, 6)", x.room(1, 6), -5);
        due("room(-1, 0)", x.room(-1, 0), -5);
    }

    private static void p15() {
        WhichSwitch x = fused(2);
        x.lamp(0, 1, 0, 0);
        x.lamp(2, 1, 12, 0);
        x.lamp(5, 1, 34, 0);
        x.lamp(4, 1, 55, 0);
        x.lamp(0, 1, 66, 0);
        house(x, 0, 0, 0, 0, 1);
        due("by night", x.nothing(0), 255 - 1 - 2 - 4 - 64);
        x.set(2, 8);
        due("by day", x.nothing(0), 255 - 1 - 2 - 4 - 8 - 16 - 64);
        x.set(0, 2);
        due("one OUT", x.nothing(0), 255 - 1 - 2 - 4 - 8 - 16);
        x.set(0, 3);
        due("all OUT", x.nothing(0), 255);
        x.set(0, 0);
        x.set(1, 1 + 2 + 4 + 16 + 64);
        due("some ON", x.nothing(0), 255 - 1 - 2 - 4 - 8 - 16 - 64);
        due("nothing(1)", x.nothing(1), -5);
        due("nothing(-1)", x.nothing(-1), -5);
    }

    // ---- asks

    private static void p16() {
        WhichSwitch x = fused(1);
        x.lamp(0, 1, 0, 0);
        x.lamp(0, 1, 100, 0);
        x.lamp(0, 1, 500, 0);
        due("ask(64, 0)", x.ask(64, 0), -2);
        due("ask(-1, 0)", x.ask(-1, 0), -2);
        due("ask(1, 2), not there", x.ask(1, 2), -2);
        due("ask(63, 8), no LAMP", x.ask(63, 8), -2);
        due("ask(63, -1)", x.ask(63, -1), -2);
        due("ask(0, 1)", x.ask(0, 1), -2);
        due("ask(34, 6)", x.ask(34, 6), 0);
        due("ask(63, 7)", x.ask(63, 7), 1);
        for (int k = 2; k < 10; k++) {
            due("ask(0, 0)", x.ask(0, 0), k);
        }
        due("an eleventh", x.ask(0, 0), -4);
        due("a bad eleventh", x.ask(0, 1), -2);
        due("count(7)", x.count(7), 10);
    }

    private static void p17() {
        WhichSwitch x = plain(1, 1);
        due("forget() of none", x.forget(), -3);
        house(x, 0);
        x.ask(1, 1);
        x.ask(1, 0);
        due("lets()", x.lets(), 0);
        due("forget()", x.forget(), 1);
        due("lets()", x.lets(), 1);
        due("ask again", x.ask(1, 1), 1);
        due("forget()", x.forget(), 1);
        due("forget()", x.forget(), 0);
        due("forget() of none", x.forget(), -3);
    }

    private static void p18() {
        WhichSwitch x = fused(2);
        x.lamp(0, 1, 0, 0);
        x.lamp(0, 1, 0, 0);
        x.lamp(0, 1, 100, 0);
        x.lamp(5, 1, 112, 0);
        house(x, 0, 1, 0, 0);
        house(x, 1, 1, 1, 1);
        x.set(1, 3);
        x.set(2, 10);
        x.set(0, 2);
        x.ask(1, 2);
        x.ask(3, 2);
        x.set(1, 0);
        x.set(2, 0);
        x.set(0, 0);
        x.ask(2, 4);
        due("amiss(0, 0)", x.amiss(0, 0), 3);
        due("amiss(1, 0)", x.amiss(1, 0), 2);
        due("amiss(0, 1)", x.amiss(0, 1), 1 + 2 + 4 + 8);
        due("amiss(1, 1)", x.amiss(1, 1), 2);
        due("amiss(0, 2)", x.amiss(0, 2), 4);
        due("amiss(0, 3)", x.amiss(0, 3), -7);
        due("amiss(0, -1)", x.amiss(0, -1), -7);
        due("amiss(2, 3)", x.amiss(2, 3), -5);
        due("amiss(-1, 0)", x.amiss(-1, 0), -5);
    }

    private static void p19() {
        WhichSwitch x = plain(2, 3);
        house(x, 0, 0, 1);
        house(x, 1, 1, 1);
        due("no ASKS", x.miss(0), 0);
        x.ask(1, 0);
        due("miss(0)", x.miss(0), 3);
        x.set(0, 1);
        x.ask(1, 4);
        x.ask(1, 1);
        due("miss(0)", x.miss(0), 5);
        due("miss(1)", x.miss(1), 3 + 2 + 2);
        x.forget();
        due("miss(0), one forgotten", x.miss(0), 3);
        due("miss(2)", x.miss(2), -5);
        due("miss(-1)", x.miss(-1), -5);
    }

    private static void p20() {
        WhichSwitch x = plain(3, 2);
        due("no HOUSES", x.lets(), 0);
        house(x, 0, 1);
        house(x, 1, 1);
        house(x, 0, 2);
        due("no ASKS", x.lets(), 7);
        x.set(0, 1);
        x.ask(1, 2);
        due("lets()", x.lets(), 5);
        x.set(0, 2);
        x.ask(1, 1);
        due("lets()", x.lets(), 1);
        x.set(1, 0);
        x.set(0, 0);
        due("it is as it was then", x.lets(), 1);
        house(x, 0, 1);
        due("a HOUSE told later", x.lets(), 9);
        x.ask(0, 0);
        due("looking nowhere", x.lets(), 9);
    }

    private static void p21() {
        WhichSwitch x = plain(2, 3);
        due("no HOUSES", x.likeliest(), -1);
        house(x, 0, 0, 0);
        house(x, 1, 1, 0);
        house(x, 1, 1, 1);
        house(x, 1, 0, 1);
        due("no ASKS", x.likeliest(), 0);
        x.set(0, 1);
        x.ask(1, 6);
        due("two with one", x.likeliest(), 2);
        x.ask(1, 5);
        due("likeliest()", x.likeliest(), 2);
        x.ask(1, 5);
        due("likeliest()", x.likeliest(), 3);
    }

    private static void p22() {
        WhichSwitch x = plain(2, 3);
        house(x, 0, 0, 0);
        house(x, 0, 1, 0);
        house(x, 1, 1, 1);
        x.set(0, 1);
        x.ask(1, 0);
        due("near(0)", x.near(0), 1);
        due("near(1)", x.near(1), 3);
        due("near(2)", x.near(2), 3);
        due("near(3)", x.near(3), 7);
        due("near(999)", x.near(999), 7);
        x.ask(1, 7);
        due("near(0), the first amiss", x.near(0), 0);
        due("near(3)", x.near(3), 7);
        due("near(2)", x.near(2), 0);
        x.forget();
        due("near(1000)", x.near(1000), -2);
        due("near(-1)", x.near(-1), -2);
    }

    /** HOUSES 0 .. 3 with a LAMP in each of ROOMS 0, 1 and FUSES 0 .. 2. */
    private static WhichSwitch parted() {
        WhichSwitch x = fused(3);
        x.lamp(0, 1, 0, 0);
        x.lamp(0, 1, 100, 0);
        x.set(1, 1);
        house(x, 0, 0);
        house(x, 0, 1);
        house(x, 1, 0);
        house(x, 2, 2);
        return x;
    }

    private static void p23() {
        WhichSwitch x = parted();
        // with FUSE 0 OUT: nothing, LAMP 1, LAMP 0, both
        due("parts(1, 63, 0)", x.parts(1, 63, 0), 4);
        due("parts(1, 63, 1)", x.parts(1, 63, 1), 1);
        due("parts(1, 1, 0)", x.parts(1, 1, 0), 2);
        due("parts(1, 1, 1)", x.parts(1, 1, 1), 2);
        due("parts(4, 3, 0)", x.parts(4, 3, 0), 2);
        due("parts(4, 3, 1)", x.parts(4, 3, 1), 3);
        due("parts(0, 3, 0)", x.parts(0, 3, 0), 1);
        due("parts(0, 3, 1)", x.parts(0, 3, 1), 4);
        due("parts(1, 0, 1)", x.parts(1, 0, 1), 4);
        x.set(0, 1);
        due("what is OUT now does not matter", x.parts(4, 3, 0), 2);
        x.set(0, 4);
        x.ask(1, 1);
        due("of those that are LET", x.parts(1, 3, 0), 3);
        x.set(1, 0);
        due("by the SWITCHES of now", x.parts(1, 63, 0), 1);
        x.ask(1, 1);
        due("none is LET", x.parts(1, 63, 0), 0);
        due("none is LET", x.parts(1, 63, 1), 0);
        due("parts(8, 0, 0)", x.parts(8, 0, 0), -2);
        due("parts(-1, 0, 0)", x.parts(-1, 0, 0), -2);
        due("parts(0, 64, 0)", x.parts(0, 64, 0), -2);
        due("parts(0, -1, 0)", x.parts(0, -1, 0), -2);
        due("parts(0, 0, 2)", x.parts(0, 0, 2), -2);
        due("parts(0, 0, -1)", x.parts(0, 0, -1), -2);
    }

    private static void p24() {
        WhichSwitch x = parted();
        due("next(63, 1, 0)", x.next(63, 1, 0), 1);
        due("next(63, 1, 1)", x.next(63, 1, 1), 1);
        due("next(63, 0, 0)", x.next(63, 0, 0), 0);
        due("next(63, 0, 1)", x.next(63, 0, 1), 4);
        due("next(1, 6, 0)", x.next(1, 6, 0), 1);
        due("next(1, 6, 1)", x.next(1, 6, 1), 2);
        due("next(0, 6, 0)", x.next(0, 6, 0), 0);
        due("next(64, 0, 0)", x.next(64, 0, 0), -2);
        due("next(-1, 0, 0)", x.next(-1, 0, 0), -2);
        due("next(0, 7, 0)", x.next(0, 7, 0), -2);
        due("next(0, -1, 0)", x.next(0, -1, 0), -2);
        due("next(0, 0, 2)", x.next(0, 0, 2), -2);
        due("next(0, 0, -1)", x.next(0, 0, -1), -2);
        x.ask(1, 0);
        due("none is LET", x.next(63, 1, 0), -1);
        due("bad, none is LET", x.next(64, 1, 0), -2);
        WhichSwitch y = fused(4);
        y.lamp(0, 1, 0, 0);
        y.set(1, 1);
        for (int f = 0; f < 4; f++) {
            house(y, f);
        }
        // one OUT parts 1 from 3, two OUT part 2 from 2
        due("one OUT", y.next(1, 1, 0), 1);
        due("two OUT", y.next(1, 2, 0), 3);
        due("two OUT", y.next(1, 2, 1), 2);
        due("three are no better", y.next(1, 6, 0), 3);
        house(y, 3);
        house(y, 3);
        due("fewer ahead of the least", y.next(1, 6, 0), 8);
        due("fewer ahead of the least", y.next(1, 6, 1), 3);
        y.set(0, 1);
        y.ask(1, 1);
        due("of those that are LET", y.next(1, 6, 0), 8);
        due("of those that are LET", y.next(1, 6, 1), 3);
        WhichSwitch none = new WhichSwitch();
        due("no HOUSES", none.next(63, 1, 0), -1);
        house(none);
        due("no FUSES", none.next(63, 1, 0), 0);
        due("no FUSES", none.next(63, 1, 1), 1);
        due("no FUSES", none.ahead(63, 0), 0);
        due("no FUSES", none.ahead(63, 1), 1);
        due("no FUSES", none.plan(0, 63, 6), 0);
    }

    private static void p25() {
        WhichSwitch y = fused(4);
        y.lamp(0, 1, 0, 0);
        y.set(1, 1);
        due("none is LET", y.ahead(1, 0), -1);
        for (int f = 0; f < 4; f++) {
            house(y, f);
        }
        due("two and then one", y.ahead(1, 0), 3);
        due("two and then one", y.ahead(1, 1), 1);
        due("looking nowhere", y.ahead(0, 0), 0);
        due("looking nowhere", y.ahead(0, 1), 4);
        house(y, 3);
        house(y, 3);
        // three of FUSE 3 can't be parted; nothing OUT at first leaves them, too
        due("least as bits", y.ahead(1, 0), 0);
        due("least as bits", y.ahead(1, 1), 3);
        due("ahead(64, 0)", y.ahead(64, 0), -2);
        due("ahead(-1, 0)", y.ahead(-1, 0), -2);
        due("ahead(0, 2)", y.ahead(0, 2), -2);
        due("ahead(0, -1)", y.ahead(0, -1), -2);
        y.ask(1, 0);
        due("none is LET", y.ahead(1, 0), -1);
        due("bad, none is LET", y.ahead(1, 2), -2);
        // {0, 1} leaves 4 and 8, and 8 are halved then; one FUSE leaves 10, of which 6 are left
        WhichSwitch x = fused(6);
        x.lamp(0, 1, 0, 0);
        x.set(1, 1);
        for (int f = 0; f < 6; f++) {
            house(x, f);
            house(x, f);
        }
        due("2 at most, twice", x.ahead(1, 1), 4);
        due("2 at most, twice", x.ahead(1, 0), 3);
        // behind {0} 3 of 5 are left; behind {1} as behind {0, 1} 2 of 4
        WhichSwitch z = fused(4);
        z.lamp(0, 1, 0, 0);
        z.set(1, 1);
        int[] fuses = {0, 1, 1, 2, 2, 3};
        for (int f : fuses) {
            house(z, f);
        }
        aheadOfMany();
        aheadOfTwo();
        due("least left", z.ahead(1, 1), 2);
        due("the least of like ones", z.ahead(1, 0), 2);
    }

    private static void aheadOfMany() {
        WhichSwitch alike = plain(2, 1);
        for (int h = 0; h < 12; h++) {
            house(alike, 0);
        }
        due("twelve alike", alike.ahead(1, 0), 0);
        due("twelve alike", alike.ahead(1, 1), 12);
        due("twelve alike", alike.next(1, 6, 1), 12);
        due("twelve alike", alike.plan(0, 1, 6), -1);
        // twelve of one LAMP each: two OUT leave 2 and 10, three OUT would leave 6 and 6
        WhichSwitch x = fused(6);
        x.lamp(0, 1, 0, 0);
        x.set(1, 1);
        int[] fuses = {0, 1, 1, 2, 2, 3, 3, 4, 4, 5, 5, 5};
        for (int f : fuses) {
            house(x, f);
        }
        due("three OUT, at once", x.next(1, 3, 1), 6);
        due("two OUT, at once", x.next(1, 2, 1), 7);
        due("two and two", x.ahead(1, 1), 4);
        due("two and two", x.ahead(1, 0), 6);
    }

    private static void aheadOfTwo() {
        WhichSwitch x = ofTwo(22, 5, 41, 20, 50, 24, 21, 35, 55, 33, 34);
        due("with three OUT at first it were 1", x.ahead(63, 1), 2);
        due("with three OUT at first it were 1", x.ahead(63, 0), 3);
        WhichSwitch y = ofTwo(45, 52, 23, 21, 42, 40, 3, 24, 0, 33, 13, 22);
        due("with three OUT behind it were 1", y.ahead(63, 1), 2);
        due("with three OUT behind it were 1", y.ahead(63, 0), 3);
    }

    private static void p26() {
        WhichSwitch y = fused(4);
        y.lamp(0, 1, 0, 0);
        y.set(1, 1);
        for (int f = 0; f < 4; f++) {
            house(y, f);
        }
        due("one at a time, the first", y.plan(0, 1, 1), 1);
        due("one at a time, the second", y.plan(1, 1, 1), 2);
        due("one at a time, the third", y.plan(2, 1, 1), 3);
        due("one at a time, the last", y.plan(3, 1, 1), 3);
        for (int h = 0; h < 4; h++) {
            due("halves", y.plan(h, 1, 2), 2);
        }
        due("none OUT", y.plan(0, 1, 0), -1);
        due("looking nowhere", y.plan(0, 2, 6), -1);
        due("plan(4, 64, 7)", y.plan(4, 64, 7), -5);
        due("plan(-1, 0, 0)", y.plan(-1, 0, 0), -5);
        due("plan(0, 64, 0)", y.plan(0, 64, 0), -7);
        due("plan(0, -1, 0)", y.plan(0, -1, 0), -7);
        due("plan(0, 0, 7)", y.plan(0, 0, 7), -7);
        due("plan(0, 0, -1)", y.plan(0, 0, -1), -7);
        y.set(0, 1);
        y.ask(1, 0);
        due("it alone is LET", y.plan(0, 1, 0), 0);
        due("it isn't LET", y.plan(1, 1, 0), -1);
        due("it isn't LET, bad", y.plan(1, 64, 0), -7);
        y.forget();
        house(y, 3);
        due("two alike", y.plan(4, 1, 6), -1);
        due("not of these", y.plan(0, 1, 1), 2);
    }

    private static void p27() {
        WhichSwitch x = plain(2, 1);
        int[] bounds = {0, 0, 1, 2, 2, 3, 3, 3, 3, 4, 4, 4, 4};
        for (int n = 0; n < bounds.length; n++) {
            due("bound() of " + n, x.bound(), bounds[n]);
            house(x, n % 2);
        }
        x.set(0, 1);
        x.ask(1, 1);
        due("bound() of 6", x.bound(), 3);
    }

    // ---- what is sure

    private static void p28() {
        WhichSwitch x = plain(3, 2);
        due("none is LET", x.sure(0), -3);
        due("sure(2)", x.sure(2), -5);
        due("sure(-1)", x.sure(-1), -5);
        house(x, 2, 0);
        house(x, 2, 1);
        due("sure(0)", x.sure(0), 2);
        due("sure(1)", x.sure(1), -1);
        x.set(0, 1);
        x.ask(1, 3);
        due("sure(1) of the one LET", x.sure(1), 1);
        x.ask(1, 0);
        due("none is LET", x.sure(0), -3);
    }

    private static void p29() {
        WhichSwitch x = plain(3, 3);
        due("no HOUSES", x.grey(), 7);
        house(x, 2, 0, 1);
        due("one HOUSE", x.grey(), 0);
        house(x, 2, 1, 0);
        house(x, 2, 0, 0);
        due("grey()", x.grey(), 6);
        x.set(0, 1);
        x.ask(1, 5);
        due("one LET", x.grey(), 0);
        x.ask(1, 0);
        due("none LET", x.grey(), 7);
    }

    private static void p30() {
        WhichSwitch x = fused(3);
        x.lamp(0, 1, 0, 0);
        x.lamp(3, 1, 0, 2);
        house(x, 0, 0);
        house(x, 1, 1);
        house(x, 0, 2);
        due("off is no matter", x.live(0, 0), 7);
        due("live(0, 1)", x.live(0, 1), 2);
        due("live(0, 2)", x.live(0, 2), 5);
        due("live(0, 3)", x.live(0, 3), 0);
        due("borrowed", x.live(1, 3), 7);
        due("live(1, 4)", x.live(1, 4), 3);
        due("live(1, 5)", x.live(1, 5), 2);
        x.set(0, 7);
        due("what is OUT now is no matter", x.live(0, 0), 7);
        due("live(2, 8)", x.live(2, 8), -5);
        due("live(-1, 0)", x.live(-1, 0), -5);
        due("live(0, 8)", x.live(0, 8), -7);
        due("live(0, -1)", x.live(0, -1), -7);
        x.set(0, 1);
        x.set(1, 1);
        x.ask(1, 3);
        due("LET alone", x.live(0, 0), 2);
    }

    private static void p31() {
        WhichSwitch x = fused(4);
        x.lamp(0, 1, 0, 0);
        x.lamp(3, 1, 0, 0);
        x.lamp(3, 1, 0, 7);
        due("none is LET", x.dead(0), 0);
        house(x, 3, 2, 1);
        due("dead(0)", x.dead(0), 8);
        due("dead(1), borrowed", x.dead(1), 5);
        due("dead(2), borrowed of none", x.dead(2), 2);
        house(x, 1, 2, 1);
        due("dead(0), two HOUSES", x.dead(0), 10);
        due("dead(3)", x.dead(3), -5);
        due("dead(-1)", x.dead(-1), -5);
        x.set(0, 2);
        x.set(1, 1);
        x.ask(1, 3);
        due("LET alone", x.dead(0), 8);
        x.ask(1, 0);
        due("none is LET", x.dead(0), 0);
    }

    private static void p32() {
        WhichSwitch x = fused(3);
        x.lamp(0, 1, 0, 0);
        x.lamp(0, 1, 0, 0);
        x.lamp(3, 1, 0, 2);
        due("none is LET", x.touch(), 7);
        house(x, 0, 0, 0);
        house(x, 0, 1, 1);
        due("nothing OUT", x.touch(), 0);
        x.set(0, 1);
        due("one OUT", x.touch(), 1);
        x.set(0, 3);
        due("two OUT", x.touch(), 3);
        x.set(0, 7);
        due("all OUT", x.touch(), 7);
        x.set(1, 1);
        x.set(0, 1);
        x.ask(1, 4);
        due("LET alone", x.touch(), 3);
    }

    // ---- lamps of unlike strength

    /** LAMPS of these POWERS in ROOM 1, others between them in ROOM 2. */
    private static WhichSwitch strong(int... powers) {
        WhichSwitch x = fused(1);
        for (int power : powers) {
            x.lamp(0, power, 100, 0);
        }
        return x;
    }

    private static void p33() {
        WhichSwitch x = strong(1, 2, 3);
        due("1 2 3", x.sums(1), 7);
        due("no LAMP", x.sums(0), 1);
        due("no LAMP", x.sums(5), 1);
        due("sums(6)", x.sums(6), -2);
        due("sums(-1)", x.sums(-1), -2);
        due("1 2 3, asked again", x.sums(1), 7);
        due("no LAMP, asked behind it", x.sums(0), 1);
        due("63 1", strong(63, 1).sums(1), 4);
        due("1 63", strong(1, 63).sums(1), 4);
        due("60 10 65", strong(60, 10, 65).sums(1), 8);
        due("99 98 97 1", strong(99, 98, 97, 1).sums(1), 12);
        due("1 2 4", strong(1, 2, 4).sums(1), 8);
        due("5 5 5", strong(5, 5, 5).sums(1), 4);
        due("64 64 1", strong(64, 64, 1).sums(1), 6);
        due("99 times ten", strong(99, 99, 99, 99, 99, 99, 99, 99, 99, 99).sums(1), 11);
        // all of 0 .. 63 + 64 * (0 .. 4) but for none
        due("1 2 4 8 16 32 64 64 64 64", strong(1, 2, 4, 8, 16, 32, 64, 64, 64, 64).sums(1), 320);
        due("99 98 97 .. in tens", strong(90, 91, 92, 93, 94, 95, 96, 97, 98, 99).sums(1), 176);
    }

    private static void p34() {
        WhichSwitch x = strong(1, 2, 3, 60);
        due("0", x.which(1, 0), 0);
        due("1", x.which(1, 1), 1);
        due("3, two", x.which(1, 3), -3);
        due("4", x.which(1, 4), 5);
        due("66", x.which(1, 66), 15);
        due("67", x.which(1, 67), -1);
        due("7", x.which(1, 7), -1);
        due("9999", x.which(1, 9999), -1);
        due("10000", x.which(1, 10000), -2);
        due("-1", x.which(1, -1), -2);
        due("which(6, 0)", x.which(6, 0), -2);
        due("which(-1, 0)", x.which(-1, 0), -2);
        due("another ROOM", x.which(0, 1), -1);
        WhichSwitch y = fused(1);
        y.lamp(0, 5, 0, 0);
        y.lamp(0, 5, 100, 0);
        due("LAMPS of the ROOM alone", y.which(1, 5), 2);
    }

    private static void p35() {
        due("no LAMPS", strong().put(1), -1);
        due("one", strong(50).put(1), 1);
        due("like ones", strong(1, 1).put(1), 2);
        due("5 5", strong(5, 5).put(1), 1);
        due("1 2 3", strong(1, 2, 3).put(1), 4);
        due("3 2 1", strong(3, 2, 1).put(1), 4);
        due("one further on", strong(9, 2, 2).put(1), 101);
        due("two pairs", strong(4, 4, 6, 6).put(1), -1);
        due("1 2 4 8", strong(9, 1, 2, 4, 8).put(1), 16);
        due("99", strong(5, 1, 2, 4, 8, 52, 31).put(1), 99);
        due("100", strong(98, 1, 28, 35, 47, 91, 42).put(1), -1);
        due("beyond 99", strong(3, 1, 2, 4, 8, 16, 32, 64).put(1), -1);
        due("put(6)", strong(1).put(6), -2);
        due("put(-1)", strong(1).put(-1), -2);
        WhichSwitch y = fused(1);
        y.lamp(0, 5, 200, 0);
        y.lamp(0, 5, 100, 0);
        y.lamp(0, 1, 100, 0);
        due("LAMPS of the ROOM alone", y.put(1), 102);
        due("it changes nothing", y.lampTold(1, 1), 5);
    }

    // ---- labels, walls

    private static void p36() {
        WhichSwitch x = plain(2, 2);
        due("label(0, 9)", x.label(0, 9), -2);
        due("label(10000, 0)", x.label(10000, 0), -2);
        due("label(0, 0)", x.label(0, 0), -2);
        due("label(1, 4)", x.label(1, 4), -2);
        due("label(1, -1)", x.label(1, -1), -2);
        due("label(1, 0), missing", x.label(1, 0), -11);
        row(x, 0, 2, 0);
        due("too short", x.label(1, 0), -2);
        row(x, 0, 2, 0, 2);
        due("no such FUSE", x.label(1, 0), -2);
        row(x, 0, 0, 0, 1);
        due("label(1, 0)", x.label(1, 0), 0);
        due("label(9999, 0)", x.label(9999, 0), 1);
        due("label(5, 0)", x.label(5, 0), 2);
        due("label(5, 0)", x.label(5, 0), 3);
        due("a fifth", x.label(5, 0), -4);
        due("a fifth of year 0", x.label(0, 0), -2);
        x.cell(0, 0, 2);
        due("a bad fifth", x.label(5, 0), -2);
        due("count(8)", x.count(8), 4);
        due("no HOUSE", x.count(6), 0);
    }

    private static void p37() {
        WhichSwitch x = plain(3, 3);
        house(x, 0, 1, 2);
        house(x, 2, 1, 0);
        label(x, 1, 0, 1, 2);
        label(x, 2, 2, 2, 2);
        due("agree(0, 0)", x.agree(0, 0), 3);
        due("agree(0, 1)", x.agree(0, 1), 1);
        due("agree(1, 0)", x.agree(1, 0), 1);
        due("agree(1, 1)", x.agree(1, 1), 1);
        due("agree(2, 0)", x.agree(2, 0), -5);
        due("agree(-1, 0)", x.agree(-1, 0), -5);
        due("agree(0, 2)", x.agree(0, 2), -5);
        due("agree(0, -1)", x.agree(0, -1), -5);
    }

    private static void p38() {
        WhichSwitch x = plain(3, 3);
        due("no LABEL", x.right(), -1);
        label(x, 50, 0, 0, 0);
        label(x, 40, 1, 1, 1);
        due("none is LET: the latest", x.right(), 50);
        house(x, 1, 1, 2);
        due("right()", x.right(), 40);
        house(x, 0, 0, 2);
        due("like ones: the latest", x.right(), 50);
        label(x, 70, 2, 2, 2);
        due("like ones: the latest", x.right(), 70);
        label(x, 60, 0, 1, 2);
        due("over all HOUSES together", x.right(), 60);
        x.set(0, 1);
        x.ask(1, 4);
        due("LET alone: 50 has 2, 60 2, 70 1", x.right(), 60);
    }

    private static void p39() {
        WhichSwitch x = plain(3, 3);
        label(x, 50, 0, 1, 2);
        label(x, 50, 1, 0, 0);
        due("none is LET", x.odds(0, 0), 0);
        due("none is LET", x.odds(0, 1), 1);
        house(x, 0, 1, 2);
        due("all", x.odds(0, 0), 1);
        due("all", x.odds(0, 1), 1);
        due("none agrees", x.odds(1, 0), 0);
        due("none agrees", x.odds(1, 1), 1);
        house(x, 0, 2, 2);
        due("5 of 6", x.odds(0, 0), 5);
        due("5 of 6", x.odds(0, 1), 6);
        house(x, 2, 1, 1);
        due("6 of 9", x.odds(0, 0), 2);
        due("6 of 9", x.odds(0, 1), 3);
        x.set(0, 1);
        x.ask(1, 7);
        due("LET alone: 1 of 3", x.odds(0, 0), 1);
        due("LET alone: 1 of 3", x.odds(0, 1), 3);
        due("odds(2, 0)", x.odds(2, 0), WhichSwitch.NO);
        due("odds(-1, 0)", x.odds(-1, 0), WhichSwitch.NO);
        due("odds(0, 2)", x.odds(0, 2), WhichSwitch.NO);
        due("odds(0, -1)", x.odds(0, -1), WhichSwitch.NO);
    }

    private static void p40() {
        WhichSwitch x = fused(1);
        row(x, 0, 2, 76, 83, 90, 83);
        due("tone 90 - far * 7", x.wall(0, 0, 0), 2);
        due("just so", x.wall(0, 0, 1), 0);
        row(x, 0, 2, 90, 90);
        due("like ones: the first", x.wall(0, 0, 0), 0);
        due("both ways off", x.wall(0, 0, 1), 7);
        row(x, 0, 2, 100, 80);
        due("more and less", x.wall(0, 0, 1), 13);
        row(x, 0, 0, 5);
        due("one place", x.wall(0, 5, 0), 0);
        due("one place", x.wall(0, 5, 1), 85);
        due("wall(4, 0, 0)", x.wall(4, 0, 0), -2);
        due("wall(-1, 0, 0)", x.wall(-1, 0, 0), -2);
        due("wall(0, 6, 0)", x.wall(0, 6, 0), -2);
        due("wall(0, -1, 0)", x.wall(0, -1, 0), -2);
        due("wall(0, 0, 2)", x.wall(0, 0, 2), -2);
        due("wall(0, 0, -1)", x.wall(0, 0, -1), -2);
        due("wall(1, 0, 0), missing", x.wall(1, 0, 0), -11);
        due("wall(1, 6, 0), missing", x.wall(1, 6, 0), -2);
        row(x, 1, 2);
        due("no place", x.wall(1, 0, 0), -2);
        x.sheet(1, 2, 31);
        due("31 places", x.wall(1, 0, 0), -2);
        x.sheet(1, 2, 30);
        // far 0 .. 12 say 90 .. 6, further ones 0: all together 624 at an end
        due("30 places", x.wall(1, 0, 1), 624);
        due("30 places", x.wall(1, 0, 0), 0);
        x.cell(1, 29, 999);
        due("999", x.wall(1, 0, 0), 29);
        due("999", x.wall(1, 0, 1), 624 - 90 + 909);
        x.cell(1, 29, 1000);
        due("1000", x.wall(1, 0, 0), -2);
        x.cell(1, 29, -1);
        due("-1", x.wall(1, 0, 0), -2);
        x.set(2, 7);
        law(x, "glow 0; tone room * 100 + hour * 10 + power + row + more - far; load 0;");
        row(x, 0, 2, 368, 369, 370);
        due("by ROOM and HOUR", x.wall(0, 3, 0), 2);
        due("by ROOM and HOUR", x.wall(0, 3, 1), 0);
        law(x, "glow 0; tone 1 - far * 2; load 0;");
        row(x, 0, 2, 0, 1, 0);
        due("each bounded", x.wall(0, 0, 1), 0);
    }

    // ---- one thing broken, loads

    private static void p41() {
        WhichSwitch x = fused(3);
        x.lamp(0, 1, 0, 0);
        x.lamp(0, 1, 0, 0);
        x.lamp(0, 1, 100, 0);
        x.lamp(3, 1, 200, 2);
        x.set(1, 1);
        house(x, 0, 1, 1, 0);
        due("one LAMP's", x.broken(0, 63, 13), 1 << 1);
        due("one LAMP's or its FUSE's", x.broken(0, 1, 1), 1 << 1 | 1 << 17);
        due("a FUSE's", x.broken(0, 63, 9), 1 << 17);
        due("one LAMP's or a FUSE's, borrowed", x.broken(0, 63, 14), 1 | 1 << 16);
        due("nothing's", x.broken(0, 63, 15), 1 << 18);
        due("those elsewhere", x.broken(0, 1, 3), 4 | 8 | 1 << 18);
        due("none would", x.broken(0, 63, 0), 0);
        x.set(0, 2);
        due("OUT now, too", x.broken(0, 63, 9), 2 | 4 | 1 << 17 | 1 << 18);
        due("OUT now and FUSE 0", x.broken(0, 63, 8), 1 | 1 << 16);
        due("looking nowhere", x.broken(0, 0, 0), 15 | 7 << 16);
        due("broken(1, 64, 0)", x.broken(1, 64, 0), -5);
        due("broken(-1, 0, 0)", x.broken(-1, 0, 0), -5);
        due("broken(0, 64, 0)", x.broken(0, 64, 0), -7);
        due("broken(0, -1, 0)", x.broken(0, -1, 0), -7);
        due("broken(0, 1, 4)", x.broken(0, 1, 4), -7);
        due("broken(0, 63, 16)", x.broken(0, 63, 16), -7);
        due("broken(0, 63, -1)", x.broken(0, 63, -1), -7);
    }

    private static void p42() {
        WhichSwitch x = fused(2);
        x.lamp(0, 10, 0, 5);
        x.lamp(0, 20, 11, 0);
        x.lamp(3, 40, 0, 1);
        x.lamp(1, 80, 0, 2);
        x.lamp(1, 90, 0, 2);
        x.set(1, 1);
        house(x, 0, 0, 0, 1, 0);
        due("load(0, 0)", x.load(0, 0), 15 + 41 + 92);
        due("load(0, 1)", x.load(0, 1), 82);
        x.set(0, 1);
        due("a BORROWED one by its own", x.load(0, 0), 41);
        due("a BORROWED one by its own", x.load(0, 1), 82);
        x.set(0, 0);
        law(x, "glow 0;tone 0;load row * 100 + room + hour + far;");
        x.set(2, 3);
        due("by ROW and HOUR", x.load(0, 0), 103 + 103 + 203);
        law(x, "glow 0;tone 0;load 9999 - power * 500;");
        due("each bounded", x.load(0, 0), 999 + 0 + 0);
        due("load(1, 0)", x.load(1, 0), -5);
        due("load(-1, 0)", x.load(-1, 0), -5);
        due("load(0, 2)", x.load(0, 2), -5);
        due("load(0, -1)", x.load(0, -1), -5);
    }

    private static void p43() {
        WhichSwitch x = new WhichSwitch();
        x.fuse(20, 1);
        x.fuse(19, 1);
        x.fuse(0, 1);
        x.lamp(0, 10, 0, 0);
        x.lamp(0, 10, 0, 0);
        x.set(1, 1);
        house(x, 0, 0);
        house(x, 1, 1);
        house(x, 2, 0);
        due("as much as it BEARS", x.over(0), 0);
        x.set(1, 0);
        due("none LIT", x.over(1), 0);
        law(x, "glow 0;tone 0;load 11;");
        x.set(1, 1);
        due("the first", x.over(0), 1);
        x.force(0);
        due("more", x.over(1), 2);
        due("BEARS 0", x.over(2), 4);
        x.set(0, 4);
        due("OUT", x.over(2), 0);
        due("over(3)", x.over(3), -5);
        due("over(-1)", x.over(-1), -5);
    }

    private static void p44() {
        WhichSwitch x = fused(2);
        x.lamp(0, 10, 1, 0);
        x.lamp(2, 20, 1, 0);
        x.lamp(2, 40, 12, 0);
        x.lamp(5, 50, 23, 0);
        x.lamp(2, 90, 77, 0);
        house(x, 0, 0, 0, 0, 0);
        due("by night", x.thick(0, 0), 10 + 20 + 40);
        x.set(2, 17);
        due("by day", x.thick(0, 0), 10 + 20 + 40 + 50);
        due("another FUSE", x.thick(0, 1), 0);
        x.set(0, 1);
        due("no FUSE OUT", x.thick(0, 0), 120);
        law(x, "glow 0;tone 0;load 100 - power;");
        due("by load", x.thick(0, 0), 90 + 80 + 60 + 50);
        WhichSwitch y = fused(2);
        y.lamp(1, 50, 0, 0);
        y.lamp(1, 60, 70, 0);
        house(y, 0, 1);
        law(y, "glow 0;tone 0;load power * (1 + (row < 2));");
        due("alone in its row", y.thick(0, 0), 100);
        law(y, "glow 0;tone 0;load power * row;");
        due("together in the row", y.thick(0, 1), 120);
        WhichSwitch z = fused(1);
        z.lamp(0, 10, 0, 0);
        z.lamp(2, 20, 1, 0);
        z.lamp(2, 40, 17, 0);
        house(z, 0, 0, 0);
        due("a SWITCH that is Y alone", z.thick(0, 0), 70);
        due("thick(1, 0)", x.thick(1, 0), -5);
        due("thick(-1, 0)", x.thick(-1, 0), -5);
        due("thick(0, 2)", x.thick(0, 2), -5);
        due("thick(0, -1)", x.thick(0, -1), -5);
    }

    private static void p45() {
        WhichSwitch x = fused(2);
        x.lamp(0, 10, 0, 5);
        x.lamp(3, 20, 0, 1);
        x.lamp(0, 40, 11, 0);
        house(x, 0, 0, 1);
        x.set(1, 3);
        due("meter(0)", x.meter(0), 15 + 21 + 40);
        x.set(0, 1);
        due("one OUT", x.meter(0), 21 + 40);
        x.set(1, 2);
        due("one off", x.meter(0), 40);
        due("meter(1)", x.meter(1), -5);
        due("meter(-1)", x.meter(-1), -5);
    }

    private static void p46() {
        WhichSwitch x = plain(2, 3);
        house(x, 0, 0, 0);
        house(x, 1, 0, 0);
        house(x, 1, 1, 0);
        x.set(0, 1);
        due("told 10, 0 off", x.witness(10, 0), 2);
        due("told 10, 9 off", x.witness(10, 9), 2);
        due("told 10, 10 off", x.witness(10, 10), 7);
        due("told 25, 15 off", x.witness(25, 15), 6);
        due("told 99999, 999 off", x.witness(99999, 999), 0);
        due("told 0, 0 off", x.witness(0, 0), 1);
        due("told 0, 10 off", x.witness(0, 10), 3);
        due("told 999, 999 off", x.witness(999, 999), 7);
        due("told -1", x.witness(-1, 0), -2);
        due("told 100000", x.witness(100000, 0), -2);
        due("-1 off", x.witness(0, -1), -2);
        due("1000 off", x.witness(0, 1000), -2);
        x.ask(1, 1);
        due("LET alone", x.witness(10, 10), 2);
    }

    private static void p47() {
        WhichSwitch x = new WhichSwitch();
        x.fuse(1, 2);
        x.fuse(1, 3);
        x.fuse(1, 1);
        x.fuse(1, 9);
        x.lamp(0, 10, 0, 0);
        x.lamp(0, 16, 0, 0);
        x.lamp(3, 4, 0, 0);
        house(x, 0, 1, 2);
        // 10 / 2, 16 / 3, 4 / 1, 0 / 9: after 3, 5, 6, 15
        due("order(0, 0)", x.order(0, 0), 2134);
        due("order(0, 1)", x.order(0, 1), 16 * 3 + 10 * 5 + 4 * 6);
        house(x, 2, 2, 2);
        due("of like ones the least", x.order(1, 0), 3124);
        due("DARK", x.order(1, 1), 30);
        x.set(0, 7);
        due("what is OUT is no matter", x.order(0, 0), 2134);
        due("order(2, 0)", x.order(2, 0), WhichSwitch.NO);
        due("order(-1, 0)", x.order(-1, 0), WhichSwitch.NO);
        due("order(0, 2)", x.order(0, 2), WhichSwitch.NO);
        due("order(0, -1)", x.order(0, -1), WhichSwitch.NO);
        WhichSwitch y = new WhichSwitch();
        y.fuse(1, 3);
        y.fuse(1, 6);
        y.lamp(0, 5, 0, 0);
        y.lamp(0, 10, 0, 0);
        house(y, 0, 1);
        house(y, 1, 0);
        due("like fractions", y.order(0, 0), 12);
        due("like fractions", y.order(0, 1), 15 + 90);
        due("unlike fractions", y.order(1, 0), 12);
        due("unlike fractions", y.order(1, 1), 30 + 45);
    }

    private static void p48() {
        WhichSwitch x = plain(1, 3);
        due("no HOUSES", x.drawn(0, 0, 0), -3);
        due("bad, no HOUSES", x.drawn(-1, 0, 0), -2);
        house(x, 0, 0, 0);
        due("one HOUSE", x.drawn(0, 63, 0), 0);
        for (int h = 1; h < 7; h++) {
            house(x, 0, 0, 0);
        }
        // 48271, then 182605794, 1291394886, 1914720637
        due("SEED 0", x.drawn(0, 63, 0), 48271 % 7);
        due("SEED 0, none slips", x.drawn(0, 63, 1), 7);
        x.set(3, 87);
        due("94, 86, 37 against 87", x.drawn(0, 63, 1), 1);
        x.set(3, 86);
        due("94, 86, 37 against 86", x.drawn(0, 63, 1), 3);
        x.set(3, 95);
        due("94, 86, 37 against 95", x.drawn(0, 63, 1), 0);
        x.set(0, 1);
        due("as all is now", x.drawn(0, 63, 1), 7);
        due("another ROOM", x.drawn(0, 62, 1), 0);
        due("SEED 1", x.drawn(1, 63, 0), 96542 % 7);
        due("SEED 99999", x.drawn(99999, 63, 0), (100000L * 48271L) % 2147483647L % 7);
        due("SEED 100000", x.drawn(100000, 63, 0), -2);
        due("SEED -1", x.drawn(-1, 63, 0), -2);
        due("ROOMS 64", x.drawn(0, 64, 0), -2);
        due("ROOMS -1", x.drawn(0, -1, 0), -2);
        due("what 2", x.drawn(0, 0, 2), -2);
        due("what -1", x.drawn(0, 0, -1), -2);
        WhichSwitch y = fused(2);
        y.lamp(0, 1, 100, 0);
        y.lamp(0, 1, 0, 0);
        y.lamp(0, 1, 100, 0);
        y.set(1, 1);
        house(y, 0, 0, 0);
        house(y, 1, 1, 1);
        y.set(0, 2);
        y.set(3, 87);
        y.ask(1, 2);
        due("of all HOUSES", y.drawn(0, 63, 0), 1);
        due("a lot for LAMPS elsewhere, too", y.drawn(0, 2, 1), 4);
        due("all ROOMS", y.drawn(0, 63, 1), 6);
    }

    private static void p49() {
        WhichSwitch x = plain(1, 1);
        due("image() of none", x.image(), 0);
        x.ask(1, 1);
        x.ask(1, 1);
        due("image()", x.image(), 2);
        x.forget();
        due("back()", x.back(), 2);
        x.forget();
        due("image(), anew", x.image(), 1);
        x.ask(1, 0);
        due("back()", x.back(), 1);
        due("it is asked alone", x.count(7), 1);
    }

    private static void p50() {
        WhichSwitch x = plain(2, 1);
        due("back() to none", x.back(), -3);
        house(x, 0);
        house(x, 1);
        text(x, "glow 1;tone 0;load 0;");
        text(x, "glow 2;tone 0;load 0;");
        x.force(1);
        x.set(0, 1);
        x.set(2, 5);
        x.set(3, 6);
        x.ask(1, 1);
        x.ask(1, 1);
        x.image();
        x.set(0, 2);
        x.set(1, 9);
        x.set(2, 7);
        x.set(3, 8);
        x.force(2);
        x.forget();
        x.ask(1, 1);
        x.ask(1, 0);
        house(x, 1);
        due("lets() till then", x.lets(), 0);
        due("back()", x.back(), 2);
        int[] counts = {1, 1, 5, 6, 2, 1, 3, 2, 0, 3, 1, 0};
        for (int what = 0; what < counts.length; what++) {
            due("count(" + what + ")", x.count(what), counts[what]);
        }
        due("the ASKS are as they were", x.lets(), 6);
        due("amiss(0, 1)", x.amiss(0, 1), 1);
        x.forget();
        x.ask(1, 0);
        due("back() once more", x.back(), 2);
        due("the ASKS are as they were", x.lets(), 6);
        p50ask();
    }

    /** All that an ASK keeps is as it was in THE IMAGE. */
    private static void p50ask() {
        WhichSwitch x = fused(2);
        x.lamp(5, 1, 1, 0);
        x.lamp(0, 1, 102, 0);
        house(x, 0, 1);
        house(x, 1, 0);
        x.set(0, 2);
        x.set(1, 1);
        x.set(2, 12);
        x.ask(1, 1);
        due("lets()", x.lets(), 1);
        x.image();
        x.forget();
        x.set(0, 1);
        x.set(1, 0);
        x.set(2, 1);
        x.ask(3, 0);
        due("lets() of another ASK", x.lets(), 3);
        x.back();
        due("lets() as it was", x.lets(), 1);
        due("amiss(1, 0) as it was", x.amiss(1, 0), 1);
    }

    // ---- the host

    private static void p51() {
        WhichSwitch x = new WhichSwitch();
        due("sheet(-1, 0, 1)", x.sheet(-1, 0, 1), -2);
        due("sheet(4, 0, -1)", x.sheet(4, 0, -1), -2);
        due("sheet(0, 3, -1)", x.sheet(0, 3, -1), -2);
        due("sheet(0, -2, 1)", x.sheet(0, -2, 1), -2);
        due("sheet(0, 0, 41)", x.sheet(0, 0, 41), -2);
        due("sheet(0, 0, -1)", x.sheet(0, 0, -1), -14);
        due("sheet(0, 0, MIN)", x.sheet(0, 0, Integer.MIN_VALUE), -14);
        due("sheet(0, 0, 40)", x.sheet(0, 0, 40), 1);
        due("cell 39", x.cell(0, 39, 1), 1);
        due("cell 40", x.cell(0, 40, 1), -12);
        due("refused", x.sheet(0, 1, -1), -14);
        due("it stays", x.cell(0, 39, 1), 1);
        due("sheet(0, 2, 0)", x.sheet(0, 2, 0), 1);
        due("cell 0", x.cell(0, 0, 1), -12);
        due("missing", x.sheet(0, -1, 99), 1);
        due("missing", x.sheet(0, -1, -99), 1);
        due("cell of none", x.cell(0, 0, 1), -11);
        row(x, 1, 2, 7, 7, 7);
        x.sheet(1, 2, 4);
        due("all 0, so BAD as a POWER", x.lampsBy(1, 2, 0, 1), 0);
        x.cell(1, 1, 1);
        due("all 0 but that", x.lampsBy(1, 2, 0, 1), 1);
        due("ROOM 0", x.lampTold(0, 2), 0);
    }

    private static void p52() {
        WhichSwitch x = new WhichSwitch();
        due("cell(-1, 0, 0)", x.cell(-1, 0, 0), -2);
        due("cell(4, 0, 0)", x.cell(4, 0, 0), -2);
        due("missing", x.cell(3, -1, 0), -11);
        x.sheet(0, 0, 4);
        x.sheet(1, 1, 4);
        x.sheet(2, 2, 4);
        due("cell(0, -1, 0)", x.cell(0, -1, 0), -12);
        due("cell(0, 4, 0)", x.cell(0, 4, 0), -12);
        for (int s = 0; s < 3; s++) {
            due("a byte", x.cell(s, 0, 256 + 3), 1);
            due("a POWER", x.cell(s, 1, 65536 * 5 + 256 * 256 + 42), 1);
        }
        due("bytes: the lowest 8 bits", x.lampsBy(0, 0, 0, 1), 1);
        due("KIND", x.lampTold(0, 0), 3);
        due("POWER", x.lampTold(0, 1), 42);
        due("shorts: KIND 259", x.lampsBy(1, 1, 0, 1), 0);
        x.cell(1, 0, 65536 + 2);
        due("shorts: the lowest 16 bits", x.lampsBy(1, 1, 0, 1), 1);
        due("KIND", x.lampTold(1, 0), 2);
        x.cell(2, 0, 1);
        due("ints: all bits", x.lampsBy(2, 2, 0, 1), 0);
        x.cell(2, 1, 42);
        due("ints", x.lampsBy(2, 2, 0, 1), 1);
        x.cell(0, 2, 200);
        due("a byte of 200 is below 0", x.lampsBy(0, 0, 0, 1), 0);
        x.sheet(3, 0, 1);
        x.cell(3, 0, 128);
        due("a byte of 128 is below 0", x.wall(3, 0, 1), -2);
        x.cell(3, 0, 127);
        due("a byte of 127", x.wall(3, 0, 1), 37);
        x.sheet(3, 1, 1);
        x.cell(3, 0, 65535);
        due("a short of 65535 is below 0", x.wall(3, 0, 1), -2);
        x.cell(3, 0, 200);
        due("a short of 200", x.wall(3, 0, 1), 110);
    }

    private static void p53() {
        WhichSwitch x = new WhichSwitch();
        row(x, 0, 2, 0, 1, 2, 3, 4, 5, 6, 7, 8, 9);
        due("copy(4, 0, 0, 0, 0)", x.copy(4, 0, 0, 0, 0), -2);
        due("copy(0, 0, 4, 0, 0)", x.copy(0, 0, 4, 0, 0), -2);
        due("copy(-1, 0, 1, 0, 0)", x.copy(-1, 0, 1, 0, 0), -2);
        due("to a missing one", x.copy(0, 0, 1, 0, -1), -11);
        due("from a missing one", x.copy(1, 0, 0, 0, -1), -11);
        x.sheet(1, 1, 10);
        due("unlike sorts", x.copy(0, 0, 1, 0, -1), -13);
        x.sheet(1, 2, 5);
        due("n below 0", x.copy(0, 0, 1, 0, -1), -12);
        due("beyond its end", x.copy(0, 8, 1, 0, 3), -12);
        due("beyond the other's end", x.copy(0, 0, 1, 3, 3), -12);
        due("i below 0", x.copy(0, -1, 1, 0, 1), -12);
        due("j below 0", x.copy(0, 0, 1, -1, 1), -12);
        due("i and n beyond an int", x.copy(0, Integer.MAX_VALUE, 1, 0, Integer.MAX_VALUE), -12);
        due("j and n beyond an int", x.copy(0, 0, 1, Integer.MAX_VALUE, 2), -12);
        due("none at the ends", x.copy(0, 10, 1, 5, 0), 0);
        due("none beyond its end", x.copy(0, 11, 1, 5, 0), -12);
        due("none beyond the other's end", x.copy(0, 10, 1, 6, 0), -12);
        due("copy(0, 3, 1, 1, 4)", x.copy(0, 3, 1, 1, 4), 4);
        // told by the tones of a wall: 0 3 4 5 6
        due("what came", numbers(x, 1, 5), 3456);
        due("up in itself", x.copy(0, 0, 0, 2, 3), 3);
        due("as they were", numbers(x, 0, 5), 1012);
        due("down in itself", x.copy(0, 5, 0, 4, 5), 5);
        x.copy(0, 4, 1, 0, 5);
        due("as they were", numbers(x, 1, 5), 56789);
    }

    /** The first numbers of a SHEET of ints as digits, by what a wall of none but them is amiss. */
    private static int numbers(WhichSwitch x, int s, int n) {
        WhichSwitch y = x;
        int all = 0;
        int t = text(y, "glow 0;tone 0;load 0;");
        int was = t > 0 ? y.force(t) : 0;
        for (int i = 0; i < n; i++) {
            y.sheet(3, 2, 1);
            y.copy(s, i, 3, 0, 1);
            all = all * 10 + y.wall(3, 0, 1);
        }
        y.sheet(3, -1, 0);
        y.force(was);
        return all;
    }

    private static void p54() {
        WhichSwitch x = new WhichSwitch();
        row(x, 0, 2, 9, 2, 11, 123, 4, 0, 0, 500, 3, 1, 22, 200, 0, 0);
        due("lampsBy(4, 2, 0, 1)", x.lampsBy(4, 2, 0, 1), -2);
        due("lampsBy(-1, 2, 0, 1)", x.lampsBy(-1, 2, 0, 1), -2);
        due("lampsBy(1, 3, 0, 1), missing", x.lampsBy(1, 3, 0, 1), -2);
        due("lampsBy(0, -1, 0, 1)", x.lampsBy(0, -1, 0, 1), -2);
        due("lampsBy(0, 2, 0, 11)", x.lampsBy(0, 2, 0, 11), -2);
        due("lampsBy(0, 2, 0, -1)", x.lampsBy(0, 2, 0, -1), -2);
        due("missing", x.lampsBy(1, 2, 0, 1), -11);
        due("of another sort", x.lampsBy(0, 1, -1, 1), -13);
        due("at below 0", x.lampsBy(0, 2, -1, 1), -12);
        due("at the end", x.lampsBy(0, 2, 11, 1), -12);
        due("at beyond", x.lampsBy(0, 2, Integer.MAX_VALUE, 10), -12);
        due("none", x.lampsBy(0, 2, 1, 0), 0);
        due("none came", x.count(5), 0);
        due("the middle left out", x.lampsBy(0, 2, 1, 3), 2);
        due("count(5)", x.count(5), 2);
        due("LAMP 0's KIND", x.lampTold(0, 0), 2);
        due("LAMP 0's POWER", x.lampTold(0, 1), 11);
        due("LAMP 0's ROOM", x.lampTold(0, 2), 1);
        due("LAMP 0's X", x.lampTold(0, 3), 2);
        due("LAMP 0's Y", x.lampTold(0, 4), 3);
        due("LAMP 0's MORE", x.lampTold(0, 5), 4);
        due("LAMP 1's KIND", x.lampTold(1, 0), 1);
        due("what stood ahead came", x.lampsBy(0, 2, 1, 4), -12);
        due("count(5)", x.count(5), 4);
        due("FULL ones are left out", manyBy(x), 6);
        due("count(5)", x.count(5), 10);
        WhichSwitch y = new WhichSwitch();
        row(y, 0, 2, 0, 1, 0, 0);
        y.ask(0, 0);
        due("all left out by STATE", y.lampsBy(0, 2, 0, 1), 0);
    }

    private static int manyBy(WhichSwitch x) {
        x.sheet(2, 1, 40);
        for (int i = 1; i < 40; i += 4) {
            x.cell(2, i, 5);
        }
        return x.lampsBy(2, 1, 0, 10);
    }

    private static void p55() {
        WhichSwitch x = new WhichSwitch();
        x.fuse(77, 1);
        for (int kind = 0; kind < 6; kind++) {
            x.lamp(kind, 1, 0, 0);
        }
        for (int kind = 0; kind < 6; kind++) {
            for (int as = 0; as < 6; as++) {
                boolean isOne = as == kind || as == 0 || as == 2 && kind == 5;
                due("KIND " + kind + " as " + as, x.taken(6 + kind, as), isOne ? kind : -13);
            }
            due("KIND " + kind + " as a FUSE", x.taken(6 + kind, 6), -13);
            due("a FUSE as KIND " + kind, x.taken(0, kind), -13);
        }
        due("a FUSE", x.taken(0, 6), 77);
        due("no FUSE", x.taken(1, 6), -11);
        due("no FUSE", x.taken(5, 0), -11);
        due("no LAMP", x.taken(12, 0), -11);
        due("no LAMP", x.taken(15, 6), -11);
        due("taken(16, 0)", x.taken(16, 0), -12);
        due("taken(-1, 0)", x.taken(-1, 0), -12);
        due("taken(16, 7)", x.taken(16, 7), -2);
        due("taken(0, -1)", x.taken(0, -1), -2);
    }

    public static void main(String[] args) {
        Runnable[] promises = {
            PromisesTest::p01, PromisesTest::p02, PromisesTest::p03, PromisesTest::p04, PromisesTest::p05,
            PromisesTest::p06, PromisesTest::p07, PromisesTest::p08, PromisesTest::p09, PromisesTest::p10,
            PromisesTest::p11, PromisesTest::p12, PromisesTest::p13, PromisesTest::p14, PromisesTest::p15,
            PromisesTest::p16, PromisesTest::p17, PromisesTest::p18, PromisesTest::p19, PromisesTest::p20,
            PromisesTest::p21, PromisesTest::p22, PromisesTest::p23, PromisesTest::p24, PromisesTest::p25,
            PromisesTest::p26, PromisesTest::p27, PromisesTest::p28, PromisesTest::p29, PromisesTest::p30,
            PromisesTest::p31, PromisesTest::p32, PromisesTest::p33, PromisesTest::p34, PromisesTest::p35,
            PromisesTest::p36, PromisesTest::p37, PromisesTest::p38, PromisesTest::p39, PromisesTest::p40,
            PromisesTest::p41, PromisesTest::p42, PromisesTest::p43, PromisesTest::p44, PromisesTest::p45,
            PromisesTest::p46, PromisesTest::p47, PromisesTest::p48, PromisesTest::p49, PromisesTest::p50,
            PromisesTest::p51, PromisesTest::p52, PromisesTest::p53, PromisesTest::p54, PromisesTest::p55,
        };
        for (int i = 0; i < promises.length; i++) {
            about("promise " + (i + 1));
            promises[i].run();
        }
        about("the largest house");
        large();
        end(promises.length + " promises");
    }
}
