/** Promises 1 to 55: a test for each sentence that names an edge; what is refused is tested further in RefusalsTest. */
public final class EdgesTest extends Checks {
    // ---- promise 1

    private static void nothingThere() {
        says("No FUSES, LAMPS, HOUSES.");
        WhichSwitch x = new WhichSwitch();
        int[] counts = {0, 0, 0, 0, 0, 0, 0, 0, 0, 1, 0, 0};
        for (int what = 0; what < counts.length; what++) {
            due("count(" + what + ")", x.count(what), counts[what]);
        }
        long[] noSuch = {x.lampTold(0, 0), x.fedBy(0, 0), x.show(0), x.bright(0, 0), x.room(0, 0), x.nothing(0),
            x.amiss(0, 0), x.miss(0), x.plan(0, 63, 6), x.sure(0), x.live(0, 0), x.dead(0), x.agree(0, 0),
            x.broken(0, 63, 0), x.load(0, 0), x.over(0), x.thick(0, 0), x.meter(0)};
        for (int i = 0; i < noSuch.length; i++) {
            due("no such, " + i, noSuch[i], -5);
        }
        long[] none = {x.lets(), x.near(0), x.near(999), x.parts(0, 63, 0), x.parts(0, 63, 1), x.bound(), x.grey(),
            x.touch(), x.which(0, 0), x.witness(0, 999)};
        for (int i = 0; i < none.length; i++) {
            due("none, " + i, none[i], 0);
        }
        long[] minus = {x.likeliest(), x.next(63, 6, 0), x.ahead(63, 0), x.right(), x.put(0), x.which(0, 1)};
        for (int i = 0; i < minus.length; i++) {
            due("-1, " + i, minus[i], -1);
        }
        long[] missing = {x.house(0), x.label(1, 0), x.wall(0, 0, 0), x.cell(0, 0, 0), x.copy(0, 0, 1, 0, 0),
            x.lampsBy(0, 0, 0, 0), x.taken(0, 6), x.taken(5, 6), x.taken(6, 0), x.taken(15, 0)};
        for (int i = 0; i < missing.length; i++) {
            due("nothing there, " + i, missing[i], -11);
        }
        due("order", x.order(0, 0), NO);
        due("odds", x.odds(0, 0), NO);
        due("forget", x.forget(), STATE);
        due("back", x.back(), STATE);
        due("drawn", x.drawn(0, 0, 0), STATE);
        due("sums", x.sums(0), 1);
        due("text", x.text(), -100);
        due("force", x.force(0), 0);
    }

    private static void nothingInHouse() {
        about("a HOUSE and a LABEL of no FUSES and no LAMPS");
        WhichSwitch x = new WhichSwitch();
        due("house", house(x), 0);
        due("label", label(x, 9), 0);
        due("an ASK", x.ask(63, 0), 0);
        long[] zero = {x.show(0), x.room(0, 5), x.amiss(0, 0), x.miss(0), x.likeliest(), x.next(63, 6, 0),
            x.ahead(63, 0), x.plan(0, 63, 6), x.bound(), x.agree(0, 0), x.odds(0, 0), x.broken(0, 63, 0), x.over(0),
            x.meter(0), x.order(0, 0), x.order(0, 1), x.drawn(99999, 63, 0), x.drawn(99999, 63, 1), x.grey(),
            x.touch()};
        for (int i = 0; i < zero.length; i++) {
            due("0, " + i, zero[i], 0);
        }
        long[] one = {x.lets(), x.near(0), x.parts(0, 63, 0), x.parts(0, 63, 1), x.next(63, 6, 1), x.ahead(63, 1),
            x.odds(0, 1), x.witness(0, 0), x.witness(999, 999)};
        for (int i = 0; i < one.length; i++) {
            due("1, " + i, one[i], 1);
        }
        due("nothing", x.nothing(0), 255);
        due("right", x.right(), 9);
        due("witness, 1 too far off", x.witness(1, 0), 0);
    }

    // ---- promises 2 to 9

    private static void told() {
        says("A FUSE (BEARS, TAKES): its number. BAD; FULL.");
        WhichSwitch x = new WhichSwitch();
        due("a refused one takes no number", x.fuse(1000, 1), BAD);
        due("the first", x.fuse(999, 99), 0);
        due("a refused one takes no number", x.fuse(0, 100), BAD);
        due("the second", x.fuse(0, 1), 1);

        says("What 0 which FUSES are OUT, 1 which SWITCHES are ON, 2 THE HOUR, 3 SLIPS becomes v: what was.");
        int[] mosts = {3, 255, 23, 99};
        for (int what = 0; what < 4; what++) {
            due("at first", x.set(what, mosts[what]), 0);
            due("refused", x.set(what, mosts[what] + 1), BAD);
            due("the same again", x.set(what, mosts[what]), mosts[what]);
            due("and 0", x.set(what, 0), mosts[what]);
            due("and 0", x.count(what), 0);
            x.set(what, 1 + what % 2);
        }
        for (int what = 0; what < 4; what++) {
            due("each its own", x.count(what), 1 + what % 2);
        }

        says("0 .. 3 as of set(), 4 FUSES, 5 LAMPS, 6 HOUSES, 7 ASKS, 8 LABELS, 9 TEXTS, 10 THE LAW, 11 bytes of THE TAPE. BAD.");
        WhichSwitch y = largest();
        for (int k = 0; k < 4; k++) {
            label(y, 1, 0, 0, 0, 0, 0, 0, 0, 0, 0, 0);
        }
        for (int k = 0; k < 10; k++) {
            y.ask(0, 0);
        }
        for (int t = 1; t < 6; t++) {
            text(y, "glow 1;tone 1;load 1;");
        }
        y.force(5);
        feed(y, " ".repeat(160));
        y.set(0, 63);
        y.set(1, 255);
        y.set(2, 23);
        y.set(3, 99);
        int[] full = {63, 255, 23, 99, 6, 10, 12, 10, 4, 6, 5, 160};
        for (int what = 0; what < full.length; what++) {
            due("all at its most: count(" + what + ")", y.count(what), full[what]);
        }
        due("count(12)", y.count(12), BAD);
        due("count(-1)", y.count(-1), BAD);
    }

    private static void lamps() {
        says("A LAMP (where: 100 times ROOM, 10 times X, and Y): its number.");
        WhichSwitch x = new WhichSwitch();
        int[] wheres = {0, 7, 70, 77, 100, 500, 507, 570, 577, 123};
        for (int l = 0; l < 10; l++) {
            due("lamp(0, 1, " + wheres[l] + ", 0)", x.lamp(0, 1, wheres[l], 0), l);
        }
        for (int l = 0; l < 10; l++) {
            due("ROOM", x.lampTold(l, 2), wheres[l] / 100);
            due("X", x.lampTold(l, 3), wheres[l] % 100 / 10);
            due("Y", x.lampTold(l, 4), wheres[l] % 10);
        }

        says("STATE: there are HOUSES, LABELS, ASKS.");
        x = fused(1);
        x.image();
        x.ask(0, 0);
        due("an ASK", x.lamp(0, 1, 0, 0), STATE);
        due("the image's ASKS", x.back(), 0);
        due("none", x.lamp(0, 1, 0, 0), 0);
        x.ask(0, 0);
        x.image();
        x.forget();
        due("forgotten", x.lamp(0, 1, 0, 0), 1);
        x.back();
        due("back", x.lamp(0, 1, 0, 0), STATE);
        x.forget();
        due("a LABEL", label(x, 1, 0, 0), 0);
        due("a LABEL", x.lamp(0, 1, 0, 0), STATE);

        says("Of a LAMP what 0 KIND, 1 POWER, 2 ROOM, 3 X, 4 Y, 5 MORE. -5: no such LAMP; -7: what.");
        x = new WhichSwitch();
        x.lamp(5, 99, 577, 9);
        int[] most = {5, 99, 5, 7, 7, 9};
        for (int what = 0; what < 6; what++) {
            due("lampTold(0, " + what + ")", x.lampTold(0, what), most[what]);
        }
        due("lampTold(0, 6)", x.lampTold(0, 6), -7);
        due("lampTold(1, 0)", x.lampTold(1, 0), -5);
    }

    private static void fed() {
        says("The n lowest bytes of w, the highest first, come behind THE TAPE's: how many it has.");
        WhichSwitch x = new WhichSwitch();
        String s = "glow 1;tone 2;load 3;";
        for (int i = 0; i < s.length(); i++) {
            due("byte " + i + ", others not", x.feed(0x7A7A7A7A7A7A7A00L | s.charAt(i), 1), i + 1);
        }
        due("all of them", x.text(), 1);
        due("8 at once", x.feed(0x676C6F772031203BL, 8), 8);
        due("8 at once", x.feed(0x746F6E652032203BL, 8), 16);
        due("8 at once", x.feed(0x6C6F61642033203BL, 8), 24);
        due("all of them", x.text(), 2);
        due("7 of 8", x.feed(0xFF676C6F7720313BL, 7), 7);
        due("7 of 8", x.feed(0x80746F6E6520323BL, 7), 14);
        due("7 of 8", x.feed(0x006C6F616420333BL, 7), 21);
        due("all of them", x.text(), 3);
        due("bytes above 127", x.feed(-1L, 8), 8);
        due("the first of them", x.text(), -100);

        says("BAD: n not 1 .. 8; FULL.");
        due("0", x.feed(0, 0), BAD);
        due("9", x.feed(0, 9), BAD);
        due("1", x.feed(' ', 1), 1);
        due("8", x.feed(0x2020202020202020L, 8), 9);
        for (int i = 0; i < 18; i++) {
            x.feed(0x2020202020202020L, 8);
        }
        due("153 and 8", x.feed(0x676C6F7720313B20L, 8), FULL);
        due("153 and 7", x.feed(0x676C6F7720313BL, 7), 160);
        due("160 and 1", x.feed(' ', 1), FULL);
        due("nothing of the refused ones came", x.text(), -260);
    }

    private static void texts() {
        says("THE TAPE, which is empty then (by a FAULT, too), is a TEXT: its number; -100 less the place of its FAULT.");
        WhichSwitch x = new WhichSwitch();
        due("empty", x.text(), -100);
        due("a FAULT at 0", text(x, "1"), -100);
        due("THE TAPE is empty", x.count(11), 0);
        due("a FAULT at 159", text(x, "glow 1;tone 1;load 1;" + " ".repeat(138) + "x"), -259);
        due("THE TAPE is empty", x.count(11), 0);
        due("no TEXT came", x.count(9), 1);
        due("a TEXT", text(x, "glow 1;tone 1;load 1;"), 1);
        due("THE TAPE is empty", x.count(11), 0);
        due("nothing of it is left", x.text(), -100);
        due("THE LAW is as it was", x.count(10), 0);

        says("FULL (ahead of the FAULT; then THE TAPE stays).");
        for (int t = 2; t < 6; t++) {
            text(x, "glow 1;tone 1;load 1;");
        }
        feed(x, "?");
        due("a seventh", x.text(), FULL);
        due("it stays", x.count(11), 1);
        due("more behind it", x.feed('?', 1), 2);
        due("a seventh", x.text(), FULL);

        says("A TEXT is THE LAW: which was. BAD.");
        due("the last", x.force(5), 0);
        due("no such", x.force(6), BAD);
        due("below 0", x.force(-1), BAD);
        due("the same again", x.force(5), 5);
        due("the first", x.force(0), 5);
    }

    // ---- promises 10 to 15

    /** Six FUSES, ten LAMPS that are always LIT when FED, and 12 HOUSES: LAMP l of HOUSE h on FUSE (h + l) % 6. */
    private static WhichSwitch largest() {
        WhichSwitch x = fused(6);
        for (int l = 0; l < 10; l++) {
            x.lamp(4, 10, 0, 0);
        }
        for (int h = 0; h < 12; h++) {
            int[] fuses = new int[10];
            for (int l = 0; l < 10; l++) {
                fuses[l] = (h + l) % 6;
            }
            due("a HOUSE", house(x, fuses), h);
        }
        return x;
    }

    private static void houses() {
        says("A HOUSE by a SHEET (for each LAMP a FUSE that is there): its number.");
        WhichSwitch x = plain(2, 3);
        due("a FUSE that isn't there", house(x, 0, 1, 2), BAD);
        due("below 0", house(x, 0, -1, 0), BAD);
        due("one too few", house(x, 0, 1), BAD);
        due("one too many", house(x, 0, 1, 0, 0), BAD);
        due("none", house(x), BAD);
        due("the last FUSE", house(x, 1, 1, 1), 0);
        x.fuse(1, 1);
        due("a FUSE that is there now", house(x, 0, 1, 2), 1);
        due("its FUSE", x.fedBy(1, 2), 2);
        for (int sort = 0; sort < 3; sort++) {
            row(x, 0, sort, 2, 1, 0);
            due("by a SHEET of sort " + sort, x.house(0), 2 + sort);
        }
        row(x, 0, 0, 256, 1, 0);
        due("256 as a byte is 0", x.house(0), 5);
        row(x, 0, 1, 65536 + 2, 1, 0);
        due("65538 as a short is 2", x.house(0), 6);
        due("2", x.fedBy(6, 0), 2);
        row(x, 0, 2, 65536 + 2, 1, 0);
        due("65538 as an int", x.house(0), BAD);

        says("The FUSE that feeds a LAMP in a HOUSE. -5.");
        x = largest();
        due("the first of the first", x.fedBy(0, 0), 0);
        due("the last of the last", x.fedBy(11, 9), 20 % 6);
        due("a LAMP beyond", x.fedBy(11, 10), -5);
        due("a HOUSE beyond", x.fedBy(12, 9), -5);

        says("LAMPS (bits) that are LIT in a HOUSE, as all is now. -5: no such HOUSE.");
        due("all ten", x.show(11), 1023);
        x.set(0, 62);
        due("of FUSE 0 alone", x.show(11), 1 << 1 | 1 << 7);
        x.set(0, 63);
        due("none", x.show(11), 0);
        due("beyond", x.show(12), -5);
    }

    private static void brightness() {
        says("How BRIGHT a LAMP is in a HOUSE as all is now (0: not LIT). -5.");
        WhichSwitch x = fused(2);
        x.lamp(0, 99, 1, 0);
        x.lamp(0, 1, 70, 0);
        house(x, 0, 1);
        law(x, "glow power * 11;tone 0;load 0;");
        due("off", x.bright(0, 0), 0);
        x.set(1, 129);
        due("the bound", x.bright(0, 0), 999);
        due("the last", x.bright(0, 1), 11);
        x.set(0, 1);
        due("not FED", x.bright(0, 0), 0);
        due("a LAMP beyond", x.bright(0, 2), -5);
        due("a HOUSE beyond", x.bright(1, 0), -5);

        says("How BRIGHT all LAMPS of a ROOM are together.");
        x = largest();
        due("ten of 10", x.room(11, 0), 100);
        due("no LAMP there", x.room(11, 5), 0);
        law(x, "glow 999;tone 0;load 0;");
        due("ten of 999", x.room(0, 0), 9990);
        x.set(0, 63);
        due("none LIT", x.room(0, 0), 0);
        due("beyond", x.room(0, 6), -7);
    }

    private static void switches() {
        says("SWITCHES (bits) each of which alone turned the other way would change nothing of what is LIT now.");
        WhichSwitch x = fused(1);
        for (int i = 0; i < 8; i++) {
            x.lamp(0, 1, 10 * i, 0);
        }
        house(x, 0, 0, 0, 0, 0, 0, 0, 0);
        due("each has its LAMP, off", x.nothing(0), 0);
        x.set(1, 255);
        due("each has its LAMP, on", x.nothing(0), 0);
        x.set(0, 1);
        due("none FED", x.nothing(0), 255);
        x = fused(1);
        x.lamp(2, 1, 7, 0);
        x.lamp(2, 1, 33, 0);
        x.lamp(5, 1, 12, 0);
        x.lamp(4, 1, 44, 0);
        house(x, 0, 0, 0, 0);
        int[] hours = {5, 6, 17, 18};
        for (int hour : hours) {
            x.set(2, hour);
            boolean day = hour == 6 || hour == 17;
            due("X, Y of a STAIR; of a TIMED one at " + hour, x.nothing(0), day ? 255 - 129 - 6 : 255 - 129);
        }
        x = fused(1);
        x.lamp(0, 1, 0, 0);
        due("Y of a JOIN and no HOUSE", x.nothing(0), -5);
        x.lamp(1, 1, 0, 0);
        x.lamp(1, 1, 10, 0);
        house(x, 0, 0, 0);
        due("more of the row LIT, too", x.nothing(0), 252);
    }

    // ---- promises 16 to 27

    private static void asks() {
        says("An ASK, as all is now, in ROOMS (bits), with LAMPS (bits, all there) that were seen: its number. BAD; FULL.");
        WhichSwitch x = fused(1);
        for (int l = 0; l < 10; l++) {
            x.lamp(4, 1, 100 * (l % 6), 0);
        }
        due("no ROOM, no LAMP", x.ask(0, 0), 0);
        due("no ROOM, a LAMP", x.ask(0, 1), BAD);
        due("all ROOMS, all LAMPS", x.ask(63, 1023), 1);
        due("all ROOMS, one more", x.ask(63, 1024), BAD);
        due("a ROOM more", x.ask(64, 0), BAD);
        due("ROOM 5, its LAMP", x.ask(32, 32), 2);
        due("ROOM 5, another's", x.ask(32, 16), BAD);
        due("ROOM 3, both its LAMPS", x.ask(8, 8 + 512), 3);
        due("all but ROOM 3, one of its", x.ask(55, 512), BAD);
        due("all but ROOM 3, no other's", x.ask(55, 1023 - 8 - 512), 4);
        due("below 0", x.ask(-1, 0), BAD);
        due("LAMPS below 0", x.ask(63, -1), BAD);

        says("The latest ASK is none any more: how many there are. STATE: there is none.");
        for (int left = 4; left >= 0; left--) {
            due("one less", x.forget(), left);
        }
        due("there is none", x.forget(), STATE);
        due("the next one is the first", x.ask(0, 0), 0);

        says("LAMPS (bits) in which a HOUSE is AMISS in an ASK. -5: no such HOUSE; -7: ASK.");
        x = largest();
        for (int k = 0; k < 10; k++) {
            x.ask(1, 0);
        }
        due("all ten in the last of ten", x.amiss(11, 9), 1023);
        due("an eleventh", x.amiss(11, 10), -7);
        due("a thirteenth", x.amiss(12, 9), -5);

        says("How many in all ASKS together. -5: no such HOUSE.");
        due("ten of ten", x.miss(11), 100);
        due("a thirteenth", x.miss(12), -5);
        for (int k = 9; k >= 0; k--) {
            x.forget();
            due("ten less", x.miss(0), 10 * k);
        }
    }

    private static void likely() {
        says("HOUSES (bits) that are LET.");
        due("no HOUSE", new WhichSwitch().lets(), 0);
        WhichSwitch let = largest();
        due("all twelve", let.lets(), 4095);
        let.set(0, 62);
        let.ask(1, let.show(11));
        due("the last and those like it", let.lets(), bit(11) + bit(5));
        let.ask(0, 0);
        due("looking nowhere", let.lets(), bit(11) + bit(5));
        let.ask(1, 0);
        due("none", let.lets(), 0);

        says("The HOUSE that is AMISS in fewest by miss(), of like ones the first; -1: there is none.");
        WhichSwitch x = plain(2, 1);
        due("no HOUSE", x.likeliest(), -1);
        for (int h = 0; h < 12; h++) {
            house(x, h == 11 ? 1 : 0);
        }
        due("no ASK: all alike", x.likeliest(), 0);
        x.set(0, 1);
        x.ask(1, 1);
        due("the last alone", x.likeliest(), 11);
        x.ask(1, 0);
        due("one each", x.likeliest(), 0);
        x.ask(1, 0);
        due("the first again", x.likeliest(), 0);
        due("none is LET", x.lets(), 0);

        says("HOUSES (bits) that are AMISS in no more than most (0 .. 999) by miss(). BAD.");
        due("0", x.near(0), 0);
        due("1", x.near(1), 2047);
        due("2", x.near(2), 4095);
        due("999", x.near(999), 4095);
        due("1000", x.near(1000), BAD);
        due("-1", x.near(-1), BAD);
        x = largest();
        for (int k = 0; k < 10; k++) {
            x.ask(1, 0);
        }
        due("99 of 100", x.near(99), 0);
        due("100 of 100", x.near(100), 4095);
    }

    private static void parts() {
        says("AN ASK with some FUSES (bits) OUT, in ROOMS (bits): into how many KINDS it PARTS those that are LET (what 0), how many the greatest has (1; 0). BAD.");
        WhichSwitch x = ofOne(6, 0, 1, 2, 3, 4, 5, 0, 1, 2, 3, 4, 5);
        due("none OUT: one KIND", x.parts(0, 63, 0), 1);
        due("none OUT: twelve", x.parts(0, 63, 1), 12);
        due("all OUT: one KIND", x.parts(63, 63, 0), 1);
        due("all OUT: twelve", x.parts(63, 63, 1), 12);
        due("the last OUT: two KINDS", x.parts(32, 63, 0), 2);
        due("the last OUT: ten", x.parts(32, 63, 1), 10);
        due("no ROOM", x.parts(7, 0, 0), 1);
        due("a FUSE beyond", x.parts(64, 63, 0), BAD);
        x.ask(1, 0);
        due("none is LET", x.parts(7, 63, 0), 0);
        due("none is LET", x.parts(7, 63, 1), 0);
        // with FUSE 0 OUT one LAMP each, then LAMPS 0 and 1, 0 and 2
        WhichSwitch y = plain(2, 10);
        for (int h = 0; h < 12; h++) {
            int[] fuses = new int[10];
            fuses[h < 10 ? h : 0] = 1;
            fuses[h < 10 ? h : h - 9] = 1;
            house(y, fuses);
        }
        due("twelve KINDS", y.parts(1, 1, 0), 12);
        due("one in each", y.parts(1, 1, 1), 1);
    }

    private static void next() {
        says("NEXT for those that are LET, in ROOMS (bits), with at most so many (0 .. 6) OUT: which (what 0, bits), how many the greatest KIND has (1).");
        WhichSwitch x = ofOne(6, 0, 1, 2, 3, 4, 5);
        due("0", x.next(1, 0, 0), 0);
        due("0", x.next(1, 0, 1), 6);
        due("6", x.next(1, 6, 0), 7);
        due("6", x.next(1, 6, 1), 3);
        due("-1", x.next(1, -1, 0), BAD);
        due("7", x.next(1, 7, 0), BAD);
        due("more than there are FUSES", ofOne(1, 0, 0).next(1, 6, 0), 0);
        due("one that is LET", ofOne(1, 0).next(1, 6, 1), 1);
        // FUSE 0 leaves the first and the last alike, FUSE 4 or 5 parts them
        x = plain(6, 3);
        house(x, 5, 0, 1);
        house(x, 5, 1, 2);
        house(x, 5, 2, 0);
        house(x, 4, 0, 1);
        due("two LAMPS by one FUSE each", x.next(1, 1, 1), 2);
        due("two FUSES", x.next(1, 2, 1), 1);
        due("the least two", x.next(1, 2, 0), 17);
        x = ofOne(2, 0, 0, 0, 0, 0, 0, 0, 0, 0, 0, 0, 1);
        due("one of twelve parted from the others", x.next(1, 1, 0), 1);
        due("one of twelve parted from the others", x.next(1, 1, 1), 11);

        says("BAD; NONE: none is LET.");
        x = ofOne(1, 0);
        x.ask(1, 0);
        due("next", x.next(1, 0, 0), NONE);
        due("ahead", x.ahead(1, 0), NONE);
        due("next, BAD", x.next(1, 0, 2), BAD);
        due("ahead, BAD", x.ahead(64, 0), BAD);

        says("TWO AHEAD for those that are LET, in ROOMS (bits): the set (what 0), how many are left at most (1)");
        WhichSwitch alike = ofOne(2, 0, 0, 0, 0, 0, 0, 0, 0, 0, 0, 0, 0);
        due("twelve alike", alike.ahead(63, 0), 0);
        due("twelve alike", alike.ahead(63, 1), 12);
        due("twelve alike", alike.next(63, 6, 1), 12);
        due("one HOUSE", ofOne(6, 3).ahead(63, 0), 0);
        due("one HOUSE", ofOne(6, 3).ahead(63, 1), 1);
        due("no ROOM", ofOne(6, 3, 4).ahead(0, 1), 2);
        due("twelve", ofOne(6, 0, 1, 2, 3, 4, 5, 0, 1, 2, 3, 4, 5).ahead(63, 1), 4);
        due("twelve", ofOne(6, 0, 1, 2, 3, 4, 5, 0, 1, 2, 3, 4, 5).ahead(63, 0), 3);
        x = ofOne(3, 2, 0, 1, 2, 2);
        x.set(0, 4);
        x.ask(1, 1);
        due("HOUSES 1, 2 are LET", x.lets(), 6);
        due("three like ones that aren't LET", x.ahead(63, 0), 0);
        due("three like ones that aren't LET", x.ahead(63, 1), 1);
    }

    private static void plans() {
        says("with at most so many (0 .. 6) OUT, till it alone is left; -1: it isn't LET, or NEXT leaves all.");
        WhichSwitch x = ofOne(6, 0, 1, 2, 3, 4, 5);
        due("alone from the first on", ofOne(6, 0).plan(0, 63, 6), 0);
        due("alone, though none may be OUT", ofOne(6, 0).plan(0, 0, 0), 0);
        int[] byOne = {1, 2, 3, 4, 5, 5};
        for (int h = 0; h < 6; h++) {
            due("one at a time, HOUSE " + h, x.plan(h, 1, 1), byOne[h]);
        }
        // {0, 1, 2} first, then one of each three
        int[] byThree = {2, 3, 3, 2, 3, 3};
        for (int h = 0; h < 6; h++) {
            due("three at a time, HOUSE " + h, x.plan(h, 1, 6), byThree[h]);
        }
        due("none may be OUT", x.plan(0, 1, 0), -1);
        due("no ROOM", x.plan(0, 0, 6), -1);
        due("no LAMP in the ROOM", x.plan(0, 62, 6), -1);
        WhichSwitch y = ofOne(6, 0, 5, 5);
        due("parted, then alone", y.plan(0, 1, 1), 1);
        due("parted, then like another", y.plan(1, 1, 6), -1);
        y.set(0, 1);
        y.ask(1, 1);
        due("it isn't LET", y.plan(0, 1, 1), -1);
        due("it isn't LET, -7", y.plan(0, 1, 7), -7);
        due("a HOUSE beyond", y.plan(3, 64, 7), -5);
        WhichSwitch z = ofOne(6, 0, 1, 2, 3, 4, 5, 0, 1, 2, 3, 4, 5);
        due("each has its like", z.plan(11, 1, 6), -1);

        says("The least n by which 2, n times multiplied, is no less than how many are LET.");
        WhichSwitch w = plain(1, 1);
        int[] bounds = {0, 0, 1, 2, 2, 3, 3, 3, 3, 4, 4, 4, 4};
        for (int n = 0; n <= 12; n++) {
            due(n + " are LET", w.bound(), bounds[n]);
            house(w, 0);
        }
        w.ask(1, 0);
        due("none is LET", w.bound(), 0);
    }

    // ---- promises 28 to 35

    private static void sure() {
        says("The FUSE of a LAMP in all HOUSES that are LET; -1: they differ. -5: no such LAMP; STATE: none is LET.");
        WhichSwitch x = plain(6, 10);
        due("no HOUSE", x.sure(9), STATE);
        due("no such LAMP", x.sure(10), -5);
        house(x, 0, 1, 2, 3, 4, 5, 0, 1, 2, 5);
        for (int l = 0; l < 10; l++) {
            due("one HOUSE, LAMP " + l, x.sure(l), l == 9 ? 5 : l % 6);
        }
        for (int h = 1; h < 12; h++) {
            house(x, h == 11 ? 1 : 0, 1, 2, 3, 4, 5, 0, 1, 2, 5);
        }
        due("the last one differs", x.sure(0), -1);
        due("the last LAMP", x.sure(9), 5);

        says("LAMPS (bits) for which they differ (all, if none is LET).");
        due("the first", x.grey(), 1);
        x.set(0, 1);
        x.ask(1, 1023 - 64);
        due("the last alone", x.grey(), 0);
        due("the last alone", x.sure(0), 1);
        x.ask(1, 0);
        due("none is LET", x.grey(), 1023);
        due("none is LET", x.sure(0), STATE);
        due("no LAMP, none is LET", new WhichSwitch().grey(), 0);
    }

    private static void live() {
        says("HOUSES (bits) that are LET in which a LAMP is FED with some FUSES (bits) OUT. -5: no such LAMP; -7: FUSES.");
        WhichSwitch x = ofOne(6, 0, 1, 2, 3, 4, 5, 0, 1, 2, 3, 4, 5);
        due("none OUT", x.live(0, 0), 4095);
        due("all but the last OUT", x.live(0, 31), bit(5) + bit(11));
        due("all OUT", x.live(0, 63), 0);
        due("a seventh OUT", x.live(0, 64), -7);
        due("below 0", x.live(0, -1), -7);
        due("no such LAMP", x.live(1, 64), -5);
        x.set(1, 0);
        due("off is no matter", x.live(0, 0), 4095);

        says("The fewest FUSES (bits; of like ones the least as bits) with which OUT live() is 0.");
        due("all six", x.dead(0), 63);
        due("one of six", ofOne(6, 5, 5).dead(0), 32);
        due("two of six", ofOne(6, 5, 0).dead(0), 33);
        due("no HOUSE", ofOne(6).dead(0), 0);
        WhichSwitch y = fused(6);
        y.lamp(3, 1, 0, 5);
        y.lamp(3, 1, 0, 6);
        y.lamp(3, 1, 0, 0);
        house(y, 0, 0, 0);
        due("borrowed of the last", y.dead(0), 33);
        due("borrowed of none", y.dead(1), 1);
        due("borrowed of its own", y.dead(2), 1);
        due("no such LAMP", y.dead(3), -5);
        y.ask(1, 7);
        due("none is LET", y.lets(), 0);
        due("none is LET", y.dead(0), 0);
        WhichSwitch z = ofOne(6, 5, 5);
        z.set(0, 32);
        due("what is OUT now does not matter", z.dead(0), 32);

        says("LAMPS (bits) for which live() is 0 with what is OUT now.");
        due("none is LET", y.touch(), 7);
        y.forget();
        due("none OUT", y.touch(), 0);
        y.set(0, 1);
        due("FUSE 0 OUT", y.touch(), 6);
        y.set(0, 33);
        due("both OUT", y.touch(), 7);
        y.set(0, 32);
        due("the lender OUT alone", y.touch(), 0);
        WhichSwitch w = ofTwo(1, 10, 1);
        w.set(0, 1);
        due("each LAMP FED in another HOUSE", w.touch(), 0);
        w.ask(1, 1);
        due("one HOUSE alone is LET", w.lets(), 2);
        due("FED in HOUSES alone that aren't LET", w.touch(), 2);
        due("no HOUSE", plain(1, 10).touch(), 1023);
    }

    /** LAMPS of these POWERS in ROOM 5. */
    private static WhichSwitch strong(int... powers) {
        WhichSwitch x = new WhichSwitch();
        for (int power : powers) {
            x.lamp(0, power, 500, 0);
        }
        return x;
    }

    private static void sums() {
        says("How many unlike SUMS a ROOM has (of no LAMP, too: 0). BAD.");
        due("no LAMP", strong().sums(5), 1);
        due("one", strong(99).sums(5), 2);
        due("two like ones", strong(99, 99).sums(5), 3);
        due("ten like ones", strong(1, 1, 1, 1, 1, 1, 1, 1, 1, 1).sums(5), 11);
        due("all unlike", strong(1, 2, 4, 8, 16, 32, 64).sums(5), 128);
        due("0, 1, 63, 64", strong(63, 1).sums(5), 4);
        due("0, 1, 63, 64", strong(1, 63).sums(5), 4);
        due("0, 64, 65, 129", strong(64, 65).sums(5), 4);
        due("ten of the strongest", strong(99, 99, 99, 99, 99, 99, 99, 99, 99, 99).sums(5), 11);
        due("of n LAMPS n times 10 - n and 1", strong(99, 98, 97, 96, 95, 94, 93, 92, 91, 90).sums(5), 176);
        due("ROOM 6", strong(1).sums(6), BAD);

        says("The set of a ROOM's LAMPS (bits) with a SUM (0 .. 9999). BAD; NONE: none; STATE: there are two and more.");
        WhichSwitch x = strong(99, 99, 99, 99, 99, 99, 99, 99, 99, 99);
        due("0: no LAMP", x.which(5, 0), 0);
        due("990: all", x.which(5, 990), 1023);
        due("989", x.which(5, 989), NONE);
        due("991", x.which(5, 991), NONE);
        due("99: ten", x.which(5, 99), STATE);
        due("891: ten", x.which(5, 891), STATE);
        due("9999", x.which(5, 9999), NONE);
        due("10000", x.which(5, 10000), BAD);
        due("-1", x.which(5, -1), BAD);
        due("3: two", strong(1, 2, 3).which(5, 3), STATE);
        due("4: one", strong(1, 2, 3).which(5, 4), 5);
        due("no LAMP", strong().which(5, 0), 0);
        due("no LAMP", strong().which(5, 1), NONE);

        says("The first LAMP of a ROOM and the least POWER (1 .. 99) with which, were it that LAMP's, all sets of its LAMPS would have unlike SUMS");
        due("none", strong().put(5), -1);
        due("one: 1", strong(99).put(5), 1);
        due("two: 1", strong(7, 99).put(5), 1);
        due("two: 2", strong(7, 1).put(5), 2);
        due("least is 99", strong(5, 1, 2, 4, 8, 52, 31).put(5), 99);
        due("least would be 100", strong(98, 1, 28, 35, 47, 91, 42).put(5), -1);
        due("three like ones", strong(5, 5, 5).put(5), -1);
        due("two like ones and one: the second", strong(1, 5, 5).put(5), 102);
        due("ten", strong(1, 2, 3, 4, 5, 6, 7, 8, 9, 10).put(5), -1);
        due("the last LAMP", strong(1, 2, 4, 8, 16, 32, 32).put(5), 500 + 64);
        due("its own POWER", strong(1).put(5), 1);
        due("its own POWER", strong(2, 1).put(5), 2);
        x = strong(3, 2);
        x.lamp(0, 1, 400, 0);
        due("LAMPS of another ROOM", x.put(5), 1);
        due("LAMPS of another ROOM", x.put(4), 201);
    }

    // ---- promises 36 to 40

    private static void labels() {
        says("A LABEL of a year (1 .. 9999) by a SHEET as of house(): its number (4 at most).");
        WhichSwitch x = plain(2, 1);
        due("year 0", label(x, 0, 0), BAD);
        due("year 10000", label(x, 10000, 0), BAD);
        due("year 1", label(x, 1, 0), 0);
        due("year 1", x.right(), 1);
        due("year 9999", label(x, 9999, 1), 1);
        due("year 9999", x.right(), 9999);
        due("a year twice", label(x, 1, 0), 2);
        due("the fourth", label(x, 2, 0), 3);
        due("a fifth", label(x, 3, 0), FULL);
        due("how many", x.count(8), 4);

        says("BAD: year; what house() refuses of the SHEET; FULL.");
        due("too short", label(x, 3), BAD);
        due("too long", label(x, 3, 0, 0), BAD);
        due("a FUSE beyond", label(x, 3, 2), BAD);
        due("a FUSE below 0", label(x, 3, -1), BAD);
        due("no SHEET", x.label(3, 4), BAD);
        due("missing", x.label(3, 0), -11);

        says("For how many LAMPS a LABEL tells the FUSE that feeds it in a HOUSE. -5.");
        x = plain(2, 10);
        house(x, 0, 1, 0, 1, 0, 1, 0, 1, 0, 1);
        label(x, 1, 0, 1, 0, 1, 0, 1, 0, 1, 0, 1);
        label(x, 1, 1, 0, 1, 0, 1, 0, 1, 0, 1, 0);
        label(x, 1, 1, 0, 1, 0, 1, 0, 1, 0, 1, 1);
        label(x, 1, 0, 1, 0, 1, 0, 1, 0, 1, 0, 0);
        int[] agreed = {10, 0, 1, 9};
        for (int k = 0; k < 4; k++) {
            due("LABEL " + k, x.agree(k, 0), agreed[k]);
        }
        due("a fifth", x.agree(4, 0), -5);
        due("no such HOUSE", x.agree(0, 1), -5);
    }

    private static void right() {
        says("The year of the LABEL that agrees in most over all HOUSES that are LET together; of like ones the latest year; -1: there is none.");
        WhichSwitch x = ofOne(3, 0, 0, 1);
        due("no LABEL", x.right(), -1);
        label(x, 30, 2);
        due("one that agrees in none", x.right(), 30);
        label(x, 20, 1);
        due("1 of 3", x.right(), 20);
        label(x, 10, 0);
        due("2 of 3, though the earliest", x.right(), 10);
        label(x, 11, 0);
        due("of like ones the latest", x.right(), 11);
        x.set(0, 1);
        x.ask(1, 1);
        due("of the one that is LET", x.right(), 20);
        x.ask(1, 0);
        due("none is LET: all are like ones", x.right(), 30);
        WhichSwitch z = plain(2, 3);
        house(z, 0, 0, 0);
        label(z, 10, 0, 0, 0);
        label(z, 20, 0, 1, 1);
        label(z, 30, 0, 0, 1);
        due("3, 1, 2 of 3", z.right(), 10);

        says("part 0 above, 1 below the line, in lowest terms (0 by 1, if there are none). NO: LABEL, part.");
        due("none is LET, above", x.odds(3, 0), 0);
        due("none is LET, below", x.odds(3, 1), 1);
        x.forget();
        due("1 of 1, above", x.odds(1, 0), 1);
        due("1 of 1, below", x.odds(1, 1), 1);
        due("0 of 1, above", x.odds(0, 0), 0);
        due("0 of 1, below", x.odds(0, 1), 1);
        x.forget();
        due("2 of 3, above", x.odds(3, 0), 2);
        due("2 of 3, below", x.odds(3, 1), 3);
        due("0 of 3, below", x.odds(0, 1), 1);
        due("a fifth LABEL", x.odds(4, 0), NO);
        due("part 2", x.odds(0, 2), NO);
        WhichSwitch y = largest();
        label(y, 1, 0, 0, 0, 0, 0, 0, 0, 0, 0, 0);
        label(y, 1, 0, 1, 2, 3, 4, 5, 0, 1, 2, 3);
        // each LAMP is on FUSE 0 in two of twelve HOUSES: 20 of 120
        due("20 of 120, above", y.odds(0, 0), 1);
        due("20 of 120, below", y.odds(0, 1), 6);
        due("HOUSES 0 and 6 wholly: 20 of 120", y.odds(1, 1), 6);
    }

    private static void walls() {
        says("A SHEET tells how strong (0 .. 999) a tone is at places 0, 1, .. (1 .. 30 of them) of a wall of a ROOM");
        WhichSwitch x = new WhichSwitch();
        x.sheet(0, 2, 0);
        due("no place", x.wall(0, 0, 0), BAD);
        x.sheet(0, 2, 1);
        due("one place", x.wall(0, 0, 0), 0);
        due("one place", x.wall(0, 0, 1), 90);
        x.sheet(0, 2, 30);
        due("30 places", x.wall(0, 0, 0), 0);
        x.cell(0, 29, 90);
        due("30 places, the last heard", x.wall(0, 0, 0), 29);
        x.sheet(0, 2, 31);
        due("31 places", x.wall(0, 0, 0), BAD);
        x.sheet(0, 2, 40);
        due("40 places", x.wall(0, 0, 0), BAD);
        row(x, 0, 2, 0, 999);
        due("0 and 999", x.wall(0, 0, 0), 1);
        due("0 and 999", x.wall(0, 0, 1), 83 + 909);
        row(x, 0, 2, 0, 1000);
        due("1000", x.wall(0, 0, 0), BAD);
        row(x, 0, 2, -1, 0);
        due("-1", x.wall(0, 0, 0), BAD);

        says("the place of the joint by which what is heard is least AMISS");
        row(x, 0, 2, 83, 90, 83, 76);
        due("the second place", x.wall(0, 0, 0), 1);
        due("all as tone says", x.wall(0, 0, 1), 0);
        row(x, 0, 2, 83, 83, 90);
        due("the last: 7, 0, 0", x.wall(0, 0, 0), 2);
        due("the last: 7, 0, 0", x.wall(0, 0, 1), 7);

        says("(all differences of what is told from what tone says, by how far each place is off, together), of like ones the first (what 0), how much that is (1).");
        row(x, 0, 2, 50, 50);
        due("both alike", x.wall(0, 0, 0), 0);
        due("40 and 33", x.wall(0, 0, 1), 73);
        row(x, 0, 2, 83, 90, 90, 83);
        due("the second and the third", x.wall(0, 0, 0), 1);
        due("0, 0, 7, 7", x.wall(0, 0, 1), 14);
        law(x, "glow 1;tone 999;load 1;");
        x.sheet(0, 2, 30);
        due("all alike", x.wall(0, 0, 0), 0);
        due("30 times 999", x.wall(0, 0, 1), 29970);
    }

    // ---- promises 41 to 50

    private static void broken() {
        says("LAMPS (bits 0 .. 9) without each of which alone it would show just these, FUSES (bits 16 .. 21) with each of which OUT, too, it would.");
        WhichSwitch x = fused(6);
        for (int l = 0; l < 10; l++) {
            x.lamp(4, 1, l < 9 ? 0 : 500, 0);
        }
        house(x, 0, 0, 0, 0, 0, 1, 2, 3, 4, 5);
        due("LAMP 9 and FUSE 5", x.broken(0, 63, 511), bit(9) + bit(21));
        due("LAMP 0", x.broken(0, 63, 1022), 1);
        due("FUSE 0", x.broken(0, 63, 1023 - 31), bit(16));
        due("none alone", x.broken(0, 63, 0), 0);
        due("none needed: nothing is without a change", x.broken(0, 63, 1023), 0);
        due("of ROOM 5 alone", x.broken(0, 32, 0), bit(9) + bit(21));
        due("all is seen in ROOM 5", x.broken(0, 32, 512), 511 + (31 << 16));
        due("no ROOM", x.broken(0, 0, 0), 1023 + (63 << 16));
        x.set(0, 32);
        due("FUSE 5 is OUT now", x.broken(0, 63, 511), bit(9) + bit(21));
        x.set(0, 63);
        due("all are OUT now", x.broken(0, 63, 0), 1023 + (63 << 16));
        due("LAMPS beyond", x.broken(0, 63, 1024), -7);
        due("a LAMP elsewhere", x.broken(0, 31, 512), -7);
        due("ROOMS beyond", x.broken(0, 64, 0), -7);
        due("no such HOUSE", x.broken(1, 64, 1024), -5);
        WhichSwitch y = fused(2);
        y.lamp(3, 1, 0, 1);
        house(y, 0);
        y.set(1, 1);
        due("borrowed: the LAMP alone", y.broken(0, 1, 0), 1);
        y.set(0, 1);
        due("borrowed: the lender, too", y.broken(0, 1, 0), 1 + bit(17));
    }

    private static void loads() {
        says("load of all LAMPS that are LIT and that a FUSE feeds in a HOUSE, together (a BORROWED one by its own). -5.");
        WhichSwitch x = largest();
        law(x, "glow 1;tone 1;load 999;");
        due("two of 999", x.load(0, 0), 1998);
        due("one of 999", x.load(0, 5), 999);
        WhichSwitch y = fused(6);
        for (int l = 0; l < 10; l++) {
            y.lamp(3, 99, 0, 5);
        }
        house(y, 0, 0, 0, 0, 0, 0, 0, 0, 0, 0);
        due("none LIT", y.load(0, 0), 0);
        y.set(1, 1);
        due("all of one FUSE", y.load(0, 0), 1040);
        due("none of another", y.load(0, 5), 0);
        y.set(0, 1);
        due("lent by FUSE 5, on its own all the same", y.load(0, 0), 1040);
        due("lent by FUSE 5", y.load(0, 5), 0);
        y.set(0, 33);
        due("both OUT", y.load(0, 0), 0);
        due("no such FUSE", y.load(0, 6), -5);
        due("no such HOUSE", y.load(1, 0), -5);

        says("FUSES (bits) whose load() is more than BEARS. -5: no such HOUSE.");
        WhichSwitch z = new WhichSwitch();
        int[] bears = {9, 10, 11, 0, 999, 998};
        for (int b : bears) {
            z.fuse(b, 1);
        }
        for (int l = 0; l < 6; l++) {
            z.lamp(4, 10, 0, 0);
        }
        house(z, 0, 1, 2, 3, 4, 5);
        due("10 each", z.over(0), 1 + 8);
        law(z, "glow 0;tone 0;load 999;");
        due("999 each", z.over(0), 1 + 2 + 4 + 8 + 32);
        law(z, "glow 0;tone 0;load 0;");
        due("0 each", z.over(0), 0);
        due("no such HOUSE", z.over(1), -5);
    }

    private static void thick() {
        says("The most that load() would be, whichever SWITCHES are ON, no FUSE being OUT, at THE HOUR. -5.");
        WhichSwitch x = fused(2);
        x.lamp(2, 10, 67, 0);
        x.lamp(2, 20, 70, 0);
        x.lamp(2, 40, 6, 0);
        x.lamp(5, 99, 7, 0);
        house(x, 0, 0, 0, 0);
        due("two of a ring of three", x.thick(0, 0), 60);
        x.set(2, 6);
        // with 7 unlike 0, two of 10, 20, 40 go with it: 20 and 40
        due("by day", x.thick(0, 0), 20 + 40 + 99);
        x.set(2, 17);
        due("till 17", x.thick(0, 0), 159);
        x.set(2, 18);
        due("at 18", x.thick(0, 0), 60);
        x.set(0, 3);
        x.set(1, 255);
        due("all OUT and ON now", x.thick(0, 0), 60);
        due("a FUSE of none", x.thick(0, 1), 0);
        due("no such FUSE", x.thick(0, 2), -5);
        due("no such HOUSE", x.thick(1, 0), -5);
        for (int i = 0; i < 8; i++) {
            due("SWITCH " + i + " as X alone", oneLamp(0, 10 * i).thick(0, 0), 7);
            due("SWITCH " + i + " and SWITCH 0 of a STAIR", oneLamp(2, i).thick(0, 0), i == 0 ? 0 : 7);
            WhichSwitch z = fused(1);
            int second = (i + 1) % 8;
            int third = (i + 2) % 8;
            z.lamp(0, 7, 11 * i, 0);
            z.lamp(2, 20, 10 * i + second, 0);
            z.lamp(2, 40, 10 * second + third, 0);
            house(z, 0, 0, 0);
            due("SWITCHES " + i + " and " + third + ", the latter as Y alone", z.thick(0, 0), 67);
        }

        WhichSwitch y = fused(2);
        for (int l = 0; l < 8; l++) {
            y.lamp(1, 1 + l, 10 * l, 9);
        }
        y.lamp(1, 50, 0, 9);
        y.lamp(1, 60, 70, 9);
        house(y, 0, 0, 0, 0, 0, 0, 0, 0, 0, 0);
        house(y, 0, 1, 1, 1, 1, 1, 1, 1, 1, 1);
        law(y, "glow 0;tone 0;load (row = 10) * 900 + (row = 1) * power;");
        due("ten in a row", y.thick(0, 0), 9000);
        due("one of ten", y.thick(1, 0), 900);
        law(y, "glow 0;tone 0;load (row = 1) * power;");
        due("the strongest that may be alone", y.thick(0, 0), 7);
        law(y, "glow 0;tone 0;load (row = 2) * power + (row = 3) * (power - 1);");
        due("LAMPS 6, 7 and 9, three in a row", y.thick(0, 0), 6 + 7 + 59);
        law(y, "glow 0;tone 0;load 99 - row * 10 + power;");
        due("some of all", y.thick(0, 0), strongest());
        law(y, "glow 0;tone 0;load 0;");
        due("nothing", y.thick(0, 0), 0);
    }

    private static WhichSwitch oneLamp(int kind, int where) {
        WhichSwitch x = fused(1);
        x.lamp(kind, 7, where, 0);
        house(x, 0);
        return x;
    }

    /** The last of thick() by all sets of SWITCHES: LAMPS 0 .. 7 have one each, LAMP 8 the first, LAMP 9 the last. */
    private static int strongest() {
        int most = 0;
        for (int on = 0; on < 256; on++) {
            int row = 0;
            int power = 0;
            for (int i = 0; i < 8; i++) {
                int ends = i == 0 ? 50 : i == 7 ? 60 : 0;
                if ((on & bit(i)) != 0) {
                    row += ends > 0 ? 2 : 1;
                    power += 1 + i + ends;
                }
            }
            most = Math.max(most, row * (99 - row * 10) + power);
        }
        return most;
    }

    private static void meters() {
        says("load() of all FUSES together. -5: no such HOUSE.");
        WhichSwitch x = largest();
        due("ten of 10", x.meter(11), 100);
        law(x, "glow 0;tone 5;load 1000;");
        due("ten of 999", x.meter(11), 9990);
        due("no such HOUSE", x.meter(12), -5);
        x.set(0, 63);
        due("all OUT", x.meter(11), 0);
        x.set(0, 0);

        says("HOUSES (bits) that are LET of which meter() is no more than off (0 .. 999) from what is told (0 .. 99999). BAD.");
        due("just so", x.witness(9990, 0), 4095);
        due("999 less", x.witness(9990 + 999, 999), 4095);
        due("1000 less", x.witness(9990 + 1000, 999), 0);
        due("999 more", x.witness(9990 - 999, 999), 4095);
        due("1000 more", x.witness(9990 - 1000, 999), 0);
        due("1 off", x.witness(9989, 0), 0);
        x.force(0);
        due("by another LAW", x.witness(100, 0), 4095);
        x.force(1);
        due("by the former LAW", x.witness(9990, 0), 4095);
        x.sheet(0, 2, 30);
        due("what tone says", x.wall(0, 0, 1), 150);
        due("is no matter", x.witness(9990, 0), 4095);
        due("99999", x.witness(99999, 999), 0);
        due("100000", x.witness(100000, 999), BAD);
        due("-1", x.witness(-1, 999), BAD);
        due("-1 off", x.witness(0, -1), BAD);
        due("1000 off", x.witness(0, 1000), BAD);
        x.ask(1, 0);
        due("none is LET", x.witness(9990, 0), 0);
    }

    private static void orders() {
        says("as digits, each 1 more than the FUSE's number, the first one's the highest (what 0), DARK (1). NO: none such.");
        WhichSwitch x = new WhichSwitch();
        for (int f = 0; f < 6; f++) {
            x.fuse(0, 99 - f);
        }
        for (int l = 0; l < 6; l++) {
            x.lamp(0, 99, 0, 0);
        }
        house(x, 0, 1, 2, 3, 4, 5);
        due("six digits", x.order(0, 0), 654321);
        due("DARK", x.order(0, 1), 99L * (94 * 6 + 95 * 5 + 96 * 4 + 97 * 3 + 98 * 2 + 99));
        due("what 2", x.order(0, 2), NO);
        due("no such HOUSE", x.order(1, 0), NO);
        WhichSwitch y = fused(1);
        house(y);
        due("one FUSE, no LAMP", y.order(0, 0), 1);
        due("one FUSE, no LAMP", y.order(0, 1), 0);
    }

    private static void drawn() {
        says("the first is (SEED and 1) times 48271 modulo 2147483647, each further one the last times 48271 modulo 2147483647.");
        WhichSwitch x = fused(1);
        for (int l = 0; l < 10; l++) {
            x.lamp(4, 1, l < 5 ? 0 : 500, 0);
        }
        for (int h = 0; h < 12; h++) {
            int[] fuses = new int[10];
            house(x, fuses);
        }
        // of SEED 0: 48271, then 182605794, 1291394886, 1914720637, 2078669041, 407355683, 1105902161, 854716505,
        // 564586691, 1596680831, and one more; by 100: 94, 86, 37, 41, 83, 61, 5, 91, 31, ..
        says("The first, modulo how many HOUSES there are: the HOUSE (what 0); then for each LAMP one");
        due("SEED 0: 48271 by 12", x.drawn(0, 63, 0), 7);
        due("SEED 99999: 532132706 by 12", x.drawn(99999, 63, 0), 2);
        long lot = 1596680831L * 48271L % 2147483647L;
        int[] lots = {94, 86, 37, 41, 83, 61, 5, 91, 31, (int) (lot % 100)};

        says("it is seen the other way, if that modulo 100 is less than SLIPS: LAMPS (bits) of ROOMS (bits) that are seen LIT");
        for (int slips = 0; slips < 100; slips++) {
            x.set(3, slips);
            int seen = 0;
            for (int l = 0; l < 10; l++) {
                seen |= lots[l] < slips ? 0 : bit(l);
            }
            due("SLIPS " + slips, x.drawn(0, 63, 1), seen);
            due("SLIPS " + slips + ", ROOM 5", x.drawn(0, 32, 1), seen & 992);
        }
        x.set(0, 1);
        x.set(3, 6);
        due("all OUT, LAMP 6 by 5 of 6", x.drawn(0, 63, 1), bit(6));
        x.set(3, 5);
        due("all OUT, LAMP 6 by 5 of 5", x.drawn(0, 63, 1), 0);
        due("no ROOM", x.drawn(0, 0, 1), 0);

        says("DRAWN by a SEED (0 .. 99999)");
        due("-1", x.drawn(-1, 63, 0), BAD);
        due("100000", x.drawn(100000, 63, 0), BAD);

        says("BAD; STATE: no HOUSES.");
        due("no HOUSES", plain(1, 1).drawn(0, 63, 1), STATE);
        due("no HOUSES and BAD", plain(1, 1).drawn(0, 64, 1), BAD);
    }

    private static void images() {
        says("AN IMAGE is kept: how many ASKS.");
        WhichSwitch x = plain(2, 1);
        house(x, 0);
        due("none", x.image(), 0);
        for (int k = 0; k < 10; k++) {
            x.ask(1, 1);
        }
        due("ten", x.image(), 10);

        says("All that it keeps is as in THE IMAGE (ASKS that came since are none): how many ASKS there are. STATE: there is none.");
        for (int k = 0; k < 10; k++) {
            x.forget();
        }
        x.ask(1, 0);
        due("all ten again", x.back(), 10);
        due("as they were", x.miss(0), 0);
        due("once more", x.back(), 10);
        due("an eleventh", x.ask(0, 0), FULL);
        x.forget();
        x.image();
        x.ask(1, 0);
        due("the later image", x.back(), 9);
        due("what came since is none", x.miss(0), 0);
        due("to none", new WhichSwitch().back(), STATE);
        due("what it does not keep", x.fuse(1, 1), 2);
        house(x, 1);
        label(x, 1, 1);
        text(x, "glow 1;tone 1;load 1;");
        feed(x, "abc");
        x.set(0, 4);
        x.back();
        int[] stay = {0, 1, 0, 0, 3, 1, 2, 9, 1, 2, 0, 3};
        for (int what = 0; what < stay.length; what++) {
            due("count(" + what + ")", x.count(what), stay[what]);
        }
    }

    // ---- promises 51 to 55

    private static void sheets() {
        says("A SHEET becomes a row of n of a sort, all 0, or missing (sort -1: n does not matter): 1.");
        WhichSwitch x = new WhichSwitch();
        due("to be missing, n 41", x.sheet(0, -1, 41), 1);
        due("to be missing, n -1", x.sheet(0, -1, -1), 1);
        due("to be missing, n of the least", x.sheet(0, -1, MIN), 1);
        due("missing", x.cell(0, 0, 0), -11);
        row(x, 0, 2, 7, 7, 7, 7, 7);
        due("the same size anew", x.sheet(0, 2, 5), 1);
        for (int i = 0; i < 5; i++) {
            x.sheet(1, 2, 1);
            x.copy(0, i, 1, 0, 1);
            due("number " + i, x.wall(1, 0, 1), 90);
        }
        row(x, 0, 2, 7, 7, 7, 7, 7);
        x.sheet(0, 2, 3);
        due("shorter", x.cell(0, 3, 1), -12);
        x.sheet(0, 2, 5);
        due("longer again, all 0", x.lampsBy(0, 2, 1, 1), 0);

        says("BAD: SHEET, sort, n above 40; -14.");
        due("n 41", x.sheet(0, 0, 41), BAD);
        due("n -1", x.sheet(0, 0, -1), -14);
        due("it stays", x.cell(0, 4, 1), 1);

        says("Number i of a SHEET becomes v (of bytes, shorts its lowest 8, 16 bits): 1.");
        int[][] given = {{127, 128, 255, 256, -1, -128, -256, MAX, MIN, 256 + 90},
            {999, 32768, 65535, 65536, -1, -32768, -65536, MAX, MIN, 65536 + 90}};
        int[][] kept = {{127, -128, -1, 0, -1, -128, 0, -1, 0, 90}, {999, -32768, -1, 0, -1, -32768, 0, -1, 0, 90}};
        for (int sort = 0; sort < 2; sort++) {
            for (int i = 0; i < given[sort].length; i++) {
                row(x, 0, sort, given[sort][i]);
                int want = kept[sort][i];
                due("sort " + sort + ": " + given[sort][i], x.wall(0, 0, 1),
                        want < 0 || want > 999 ? BAD : Math.abs(90 - want));
            }
        }
        row(x, 0, 2, 999);
        due("an int", x.wall(0, 0, 1), 909);
        row(x, 0, 2, 65536 + 90);
        due("an int is not cut", x.wall(0, 0, 1), BAD);
        due("place 0", x.cell(0, 0, 1), 1);
        due("place 1 of one", x.cell(0, 1, 1), -12);
        due("place -1", x.cell(0, -1, 1), -12);
    }

    private static void copies() {
        says("n numbers of a SHEET, from i on, come to another one's (or its own) place j (as they were): n.");
        WhichSwitch x = new WhichSwitch();
        x.sheet(0, 2, 40);
        x.sheet(1, 2, 40);
        due("all forty", x.copy(0, 0, 1, 0, 40), 40);
        due("forty-one", x.copy(0, 0, 1, 0, 41), -12);
        due("forty from 1 on", x.copy(0, 1, 1, 0, 40), -12);
        due("forty to 1 on", x.copy(0, 0, 1, 1, 40), -12);
        due("the last", x.copy(0, 39, 1, 39, 1), 1);
        due("none, from the end to the end", x.copy(0, 40, 1, 40, 0), 0);
        due("none, from beyond", x.copy(0, 41, 1, 0, 0), -12);
        due("none, to beyond", x.copy(0, 0, 1, 41, 0), -12);
        due("-1", x.copy(0, 0, 1, 0, -1), -12);
        due("from -1", x.copy(0, -1, 1, 0, 1), -12);
        due("to -1", x.copy(0, 0, 1, -1, 1), -12);
        due("none from -1", x.copy(0, -1, 1, 0, 0), -12);
        for (int sort = 0; sort < 3; sort++) {
            row(x, 2, sort, 90, 83, 76, 69, 1);
            x.copy(2, 0, 2, 1, 4);
            // 90 90 83 76 69
            due("up in itself, sort " + sort, x.wall(2, 0, 0), 1);
            due("up in itself, sort " + sort, x.wall(2, 0, 1), 7);
            row(x, 2, sort, 1, 90, 83, 76, 69);
            x.copy(2, 1, 2, 0, 4);
            x.cell(2, 4, 62);
            due("down in itself, sort " + sort, x.wall(2, 0, 1), 0);
        }
        x.sheet(3, 0, 5);
        due("unlike sorts", x.copy(2, 0, 3, 0, 1), -13);
    }

    private static void lampsBy() {
        says("from a place on, four by four (as of lamp()), n of them (0 .. 10): how many came (others are left out).");
        for (int sort = 0; sort < 3; sort++) {
            WhichSwitch x = new WhichSwitch();
            x.sheet(0, sort, 40);
            for (int i = 0; i < 40; i++) {
                x.cell(0, i, i % 4 == 1 ? 10 + i : 0);
            }
            due("none", x.lampsBy(0, sort, 0, 0), 0);
            due("none from the end", x.lampsBy(0, sort, 40, 0), 0);
            due("the last four", x.lampsBy(0, sort, 36, 1), 1);
            due("the last three", x.lampsBy(0, sort, 37, 1), -12);
            due("eleven", x.lampsBy(0, sort, 0, 11), BAD);
            due("-1", x.lampsBy(0, sort, 0, -1), BAD);
            due("ten, of which nine find room", x.lampsBy(0, sort, 0, 10), 9);
            due("ten LAMPS", x.count(5), 10);
            due("ten, of which none finds room", x.lampsBy(0, sort, 0, 10), 0);
            due("its POWER", x.lampTold(0, 1), 10 + 37);
            due("the first's POWER", x.lampTold(1, 1), 11);
        }
        WhichSwitch y = new WhichSwitch();
        row(y, 0, 2, 5, 99, 577, 9, 6, 1, 0, 0, 0, 0, 0, 0, 0, 100, 0, 0,
                0, 1, 578, 0, 0, 1, 600, 0, 0, 1, 0, 10, 0, 1, 0, 0);
        due("the first and the last of eight", y.lampsBy(0, 2, 0, 8), 2);
        due("two LAMPS", y.count(5), 2);
        int[] told = {5, 99, 5, 7, 7, 9};
        for (int what = 0; what < 6; what++) {
            due("lampTold(0, " + what + ")", y.lampTold(0, what), told[what]);
        }
        house(y);
        y.ask(0, 0);
        due("STATE: left out", y.lampsBy(0, 2, 0, 8), 0);

        says("-12: what stood ahead came.");
        WhichSwitch z = new WhichSwitch();
        row(z, 0, 2, 0, 1, 0, 0, 0, 2, 0, 0, 0, 3, 0);
        due("the third is cut", z.lampsBy(0, 2, 0, 3), -12);
        due("two came", z.count(5), 2);
        due("the second", z.lampTold(1, 1), 2);
        due("from -1", z.lampsBy(0, 2, -1, 1), -12);
        due("from -4, the second would be there", z.lampsBy(0, 2, -4, 2), -12);
        due("from the greatest int", z.lampsBy(0, 2, MAX, 10), -12);
        due("from near the greatest int", z.lampsBy(0, 2, MAX - 3, 10), -12);
        due("from the least int", z.lampsBy(0, 2, MIN, 10), -12);
        due("none came", z.count(5), 2);
        due("two, the third isn't asked for", z.lampsBy(0, 2, 0, 2), 2);
        due("two came", z.count(5), 4);
    }

    private static void taken() {
        says("0 .. 5 FUSES, 6 .. 15 LAMPS, taken for 0 .. 5 a LAMP of that KIND (also of one that is one): its number; 6 a FUSE: what it BEARS.");
        WhichSwitch x = new WhichSwitch();
        due("place -1", x.taken(-1, 6), -12);
        due("place 16", x.taken(16, 0), -12);
        for (int i = 0; i < 16; i++) {
            due("nothing at " + i, x.taken(i, i < 6 ? 6 : 0), -11);
        }
        for (int f = 0; f < 6; f++) {
            x.fuse(f == 5 ? 999 : f, 1);
        }
        for (int l = 0; l < 10; l++) {
            x.lamp(l % 6, 1, 0, 0);
        }
        int[][] are = {{0}, {0, 1}, {0, 2}, {0, 3}, {0, 4}, {0, 2, 5}};
        for (int i = 0; i < 16; i++) {
            for (int kind = 0; kind <= 6; kind++) {
                long want = -13;
                if (i < 6) {
                    want = kind == 6 ? i == 5 ? 999 : i : -13;
                } else {
                    for (int is : are[(i - 6) % 6]) {
                        want = is == kind ? i - 6 : want;
                    }
                }
                due("place " + i + " as " + kind, x.taken(i, kind), want);
            }
        }

        says("BAD: kind; -12: i; -11: nothing lies there; -13.");
        due("kind 7", x.taken(0, 7), BAD);
        due("kind -1", x.taken(6, -1), BAD);
        due("kind 7 at 16", x.taken(16, 7), BAD);
    }

    public static void main(String[] args) {
        nothingThere();
        nothingInHouse();
        told();
        lamps();
        fed();
        texts();
        houses();
        brightness();
        switches();
        asks();
        likely();
        parts();
        next();
        plans();
        sure();
        live();
        sums();
        labels();
        right();
        walls();
        broken();
        loads();
        thick();
        meters();
        orders();
        drawn();
        images();
        sheets();
        copies();
        lampsBy();
        taken();
        end("promises 1 to 55");
    }
}
