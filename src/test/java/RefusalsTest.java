import java.util.List;
import java.util.function.IntFunction;
import java.util.function.Supplier;

/** Each call's refusals: of each number on both sides, of several the first one told; that they change nothing. */
public final class RefusalsTest extends Checks {
    private interface Call {
        long of(WhichSwitch x);
    }

    // ---- what the calls are made of

    /** Three FUSES, five LAMPS, one in each of ROOMS 0 .. 4, and SHEETS; nothing by which lamp() would be refused. */
    private static WhichSwitch lamps() {
        WhichSwitch x = new WhichSwitch();
        x.fuse(40, 2);
        x.fuse(0, 5);
        x.fuse(999, 3);
        x.lamp(0, 10, 0, 0);
        x.lamp(1, 20, 111, 3);
        x.lamp(2, 30, 212, 4);
        x.lamp(3, 40, 300, 2);
        x.lamp(5, 50, 412, 9);
        x.set(0, 2);
        x.set(1, 3);
        x.set(2, 12);
        x.set(3, 30);
        row(x, 0, 2, 0, 1, 2, 0, 1);
        row(x, 1, 0, 0, 9, 0, 0, 2, 9, 34, 5);
        row(x, 2, 1, 80, 90, 83, 70);
        return x;
    }

    /** Some of all there is, nothing at its most; SHEETS of ints, of bytes, of shorts, and a missing one. */
    private static WhichSwitch whole() {
        WhichSwitch x = lamps();
        x.house(0);
        x.label(1950, 0);
        x.cell(0, 0, 2);
        x.house(0);
        x.cell(0, 1, 0);
        x.house(0);
        x.label(1960, 0);
        text(x, "glow power + 1;tone 80;load 7 + more;");
        text(x, "glow power + 2;tone 70;load 8 + more;");
        feed(x, "glow 3;tone 4;load 5;");
        x.ask(1, 1);
        x.set(2, 5);
        x.image();
        x.force(1);
        x.set(0, 4);
        x.set(1, 129);
        x.set(2, 13);
        x.set(3, 44);
        x.forget();
        x.ask(1, 1);
        x.ask(2, 0);
        return x;
    }

    /** The same, and each SHEET would do as a HOUSE. */
    private static WhichSwitch sheeted() {
        WhichSwitch x = whole();
        for (int s = 0; s < 4; s++) {
            row(x, s, 2, 0, 1, 2, 0, s % 3);
        }
        return x;
    }

    /** All at its most: SHEET 0 would do as a HOUSE, 1 is too short, 2 has a FUSE that isn't there, 3 is missing. */
    private static WhichSwitch full() {
        WhichSwitch x = new WhichSwitch();
        for (int f = 0; f < 6; f++) {
            x.fuse(10 * f, 1 + f);
        }
        for (int l = 0; l < 10; l++) {
            x.lamp(l % 6, 9 + l, 100 * (l % 6) + 10 * (l % 3) + l % 4, l % 8);
        }
        row(x, 0, 2, 0, 1, 2, 3, 4, 5, 0, 1, 2, 3);
        for (int h = 0; h < 12; h++) {
            x.cell(0, h % 10, h % 6);
            x.house(0);
        }
        for (int k = 0; k < 4; k++) {
            x.label(1900 + k, 0);
        }
        row(x, 1, 2, 0, 1, 2, 3, 4, 5, 0, 1, 2);
        row(x, 2, 2, 0, 1, 2, 3, 4, 5, 0, 1, 2, 6);
        x.set(0, 33);
        x.set(1, 13);
        for (int k = 0; k < 10; k++) {
            x.ask(63, x.show(0));
        }
        x.image();
        x.set(0, 3);
        for (int t = 1; t < 6; t++) {
            text(x, "glow " + t + ";tone 1;load 1;");
        }
        feed(x, "glow 9;tone 9;load 9;" + " ".repeat(139));
        return x;
    }

    /** HOUSES of which none is LET. */
    private static WhichSwitch noneLet() {
        WhichSwitch x = whole();
        x.ask(63, 31);
        x.ask(63, 0);
        return x;
    }

    private static WhichSwitch housed() {
        WhichSwitch x = lamps();
        x.house(0);
        return x;
    }

    private static WhichSwitch labelled() {
        WhichSwitch x = lamps();
        x.label(1, 0);
        return x;
    }

    private static WhichSwitch asked() {
        WhichSwitch x = lamps();
        x.ask(0, 0);
        return x;
    }

    private static WhichSwitch noTextMore(String tape) {
        WhichSwitch x = new WhichSwitch();
        for (int t = 1; t < 6; t++) {
            text(x, "glow " + t + ";tone 1;load 1;");
        }
        feed(x, tape);
        return x;
    }

    private static WhichSwitch fed(int bytes) {
        WhichSwitch x = new WhichSwitch();
        feed(x, "glow 9;tone 9;load 9;" + " ".repeat(bytes - 21));
        return x;
    }

    /** How an object is made, and what is seen of it before anything is refused. */
    private record Made(String name, Supplier<WhichSwitch> maker, List<Long> seen) {
        Made(String name, Supplier<WhichSwitch> maker) {
            this(name, maker, Observed.of(maker, x -> { }));
        }
    }

    private static final Made NEW = new Made("a new object", WhichSwitch::new);
    private static final Made LAMPS = new Made("FUSES, LAMPS and SHEETS alone", RefusalsTest::lamps);
    private static final Made WHOLE = new Made("some of all", RefusalsTest::whole);
    private static final Made SHEETED = new Made("some of all, with like SHEETS", RefusalsTest::sheeted);
    private static final Made ALL = new Made("all at its most", RefusalsTest::full);
    private static final Made NONE_LET = new Made("none LET", RefusalsTest::noneLet);

    // ---- how they are tested

    private static void changesNothing(Made on, String name, Call call) {
        List<Long> after = Observed.of(on.maker, call::of);
        int unlike = 0;
        for (int i = 0; i < after.size(); i++) {
            unlike += on.seen.get(i).equals(after.get(i)) ? 0 : 1;
        }
        due("what later calls show otherwise behind " + name + " on " + on.name, unlike, 0);
    }

    private static void answered(Made on, String name, Call call, long answer) {
        due(name + " on " + on.name, call.of(on.maker.get()), answer);
    }

    private static void refused(Made on, String name, Call call, long refusal) {
        answered(on, name, call, refusal);
        changesNothing(on, name, call);
    }

    /** A number from least to most is taken; one below, one above and the furthest ones are refused. */
    private static void bounds(Made on, String name, int least, int most, long refusal, IntFunction<Call> call) {
        bounds(on, name, least, most, refusal, refusal, call);
    }

    private static void bounds(Made on, String name, int least, int most, long below, long above,
            IntFunction<Call> call) {
        int[] allowed = {least, most, least + (most - least) / 2};
        for (int v : allowed) {
            long got = call.apply(v).of(on.maker.get());
            due("whether " + name + " " + v + " is refused on " + on.name, got == below || got == above ? 1 : 0, 0);
        }
        int[] belows = {least - 1, MIN};
        for (int v : belows) {
            refused(on, name + " " + v, call.apply(v), below);
        }
        int[] aboves = {most + 1, MAX};
        for (int v : aboves) {
            refused(on, name + " " + v, call.apply(v), above);
        }
    }

    // ---- fuses, lamps, what is out and on

    private static void fuses() {
        says("A FUSE (BEARS, TAKES): its number. BAD; FULL.");
        bounds(WHOLE, "most", 0, 999, BAD, v -> x -> x.fuse(v, 1));
        bounds(WHOLE, "time", 1, 99, BAD, v -> x -> x.fuse(1, v));
        refused(ALL, "most, BAD ahead of FULL", x -> x.fuse(1000, 1), BAD);
        refused(ALL, "time, BAD ahead of FULL", x -> x.fuse(0, 100), BAD);
        refused(ALL, "FULL", x -> x.fuse(0, 1), FULL);

        says("becomes v: what was. NONE: what; BAD: v.");
        bounds(WHOLE, "what", 0, 3, NONE, v -> x -> x.set(v, 0));
        bounds(WHOLE, "OUT", 0, 7, BAD, v -> x -> x.set(0, v));
        bounds(WHOLE, "ON", 0, 255, BAD, v -> x -> x.set(1, v));
        bounds(WHOLE, "THE HOUR", 0, 23, BAD, v -> x -> x.set(2, v));
        bounds(WHOLE, "SLIPS", 0, 99, BAD, v -> x -> x.set(3, v));
        refused(WHOLE, "what and v below", x -> x.set(4, -1), NONE);
        refused(WHOLE, "what and v above", x -> x.set(-1, MAX), NONE);

        says("10 THE LAW, 11 bytes of THE TAPE. BAD.");
        bounds(WHOLE, "what", 0, 11, BAD, v -> x -> x.count(v));
    }

    private static void lampsTold() {
        says("and Y): its number. BAD; FULL; STATE: there are HOUSES, LABELS, ASKS.");
        bounds(LAMPS, "kind", 0, 5, BAD, v -> x -> x.lamp(v, 1, 0, 0));
        bounds(LAMPS, "power", 1, 99, BAD, v -> x -> x.lamp(0, v, 0, 0));
        bounds(LAMPS, "where", 0, 577, BAD, v -> x -> x.lamp(0, 1, v / 10 % 10 > 7 ? 0 : v, 0));
        bounds(LAMPS, "more", 0, 9, BAD, v -> x -> x.lamp(0, 1, 0, v));
        for (int where = -120; where < 720; where++) {
            int w = where;
            boolean good = where >= 0 && where < 600 && where / 10 % 10 < 8 && where % 10 < 8;
            answered(LAMPS, "where " + where, x -> x.lamp(0, 1, w, 0), good ? 5 : BAD);
        }
        refused(ALL, "kind, BAD ahead of FULL", x -> x.lamp(6, 1, 0, 0), BAD);
        refused(ALL, "power, BAD ahead of FULL", x -> x.lamp(0, 0, 0, 0), BAD);
        refused(ALL, "where, BAD ahead of FULL", x -> x.lamp(0, 1, 600, 0), BAD);
        refused(ALL, "more, BAD ahead of FULL", x -> x.lamp(0, 1, 0, 10), BAD);
        refused(ALL, "FULL ahead of STATE", x -> x.lamp(0, 1, 0, 0), FULL);
        refused(WHOLE, "BAD ahead of STATE", x -> x.lamp(0, 1, 0, -1), BAD);
        refused(new Made("a HOUSE", RefusalsTest::housed), "STATE", x -> x.lamp(0, 1, 0, 0), STATE);
        refused(new Made("a LABEL", RefusalsTest::labelled), "STATE", x -> x.lamp(0, 1, 0, 0), STATE);
        refused(new Made("an ASK", RefusalsTest::asked), "STATE", x -> x.lamp(0, 1, 0, 0), STATE);

        says("-5: no such LAMP; -7: what.");
        bounds(WHOLE, "l", 0, 4, -5, v -> x -> x.lampTold(v, 0));
        bounds(WHOLE, "what", 0, 5, -7, v -> x -> x.lampTold(0, v));
        refused(WHOLE, "-5 ahead of -7", x -> x.lampTold(5, 6), -5);
    }

    // ---- the law

    private static void texts() {
        says("BAD: n not 1 .. 8; FULL.");
        bounds(WHOLE, "n", 1, 8, BAD, v -> x -> x.feed(0, v));
        refused(ALL, "BAD ahead of FULL", x -> x.feed(0, 9), BAD);
        refused(ALL, "FULL", x -> x.feed(0, 1), FULL);
        Made fed = new Made("159 bytes", () -> fed(159));
        refused(fed, "FULL by the second of two", x -> x.feed(0, 2), FULL);
        refused(fed, "FULL by the last seven", x -> x.feed(0, 8), FULL);
        answered(fed, "the last", x -> x.feed(0, 1), 160);
        Made shorter = new Made("152 bytes", () -> fed(152));
        answered(shorter, "the last eight", x -> x.feed(0, 8), 160);

        says("FULL (ahead of the FAULT; then THE TAPE stays).");
        refused(ALL, "FULL", x -> x.text(), FULL);
        refused(new Made("a FAULT", () -> noTextMore("glow ;")), "FULL", x -> x.text(), FULL);
        refused(new Made("an empty TAPE", () -> noTextMore("")), "FULL", x -> x.text(), FULL);

        says("A TEXT is THE LAW: which was. BAD.");
        bounds(WHOLE, "t", 0, 2, BAD, v -> x -> x.force(v));
        bounds(NEW, "t", 0, 0, BAD, v -> x -> x.force(v));
        bounds(ALL, "t", 0, 5, BAD, v -> x -> x.force(v));
    }

    // ---- houses

    private static void wired() {
        says("BAD: SHEET; -11; BAD: its size, a number; FULL.");
        bounds(SHEETED, "s", 0, 3, BAD, v -> x -> x.house(v));
        refused(ALL, "no SHEET", x -> x.house(4), BAD);
        refused(ALL, "missing, -11 ahead of FULL", x -> x.house(3), -11);
        refused(ALL, "size, BAD ahead of FULL", x -> x.house(1), BAD);
        refused(ALL, "number, BAD ahead of FULL", x -> x.house(2), BAD);
        refused(ALL, "FULL", x -> x.house(0), FULL);
        refused(WHOLE, "missing", x -> x.house(3), -11);
        refused(WHOLE, "size and numbers", x -> x.house(2), BAD);

        says("BAD: year; what house() refuses of the SHEET; FULL.");
        bounds(WHOLE, "y", 1, 9999, BAD, v -> x -> x.label(v, 0));
        bounds(SHEETED, "s", 0, 3, BAD, v -> x -> x.label(1, v));
        refused(ALL, "year and SHEET", x -> x.label(0, 4), BAD);
        refused(ALL, "year, BAD ahead of -11", x -> x.label(0, 3), BAD);
        refused(ALL, "year, BAD ahead of FULL", x -> x.label(10000, 0), BAD);
        refused(ALL, "missing, -11 ahead of FULL", x -> x.label(1, 3), -11);
        refused(ALL, "size, BAD ahead of FULL", x -> x.label(1, 1), BAD);
        refused(ALL, "number, BAD ahead of FULL", x -> x.label(1, 2), BAD);
        refused(ALL, "FULL", x -> x.label(1, 0), FULL);
        refused(WHOLE, "missing", x -> x.label(1, 3), -11);
        refused(WHOLE, "size and numbers", x -> x.label(1, 2), BAD);
    }

    private static void houses() {
        says("The FUSE that feeds a LAMP in a HOUSE. -5.");
        bounds(WHOLE, "h", 0, 2, -5, v -> x -> x.fedBy(v, 0));
        bounds(WHOLE, "l", 0, 4, -5, v -> x -> x.fedBy(0, v));
        refused(WHOLE, "both", x -> x.fedBy(3, 5), -5);

        says("LAMPS (bits) that are LIT in a HOUSE, as all is now. -5: no such HOUSE.");
        bounds(WHOLE, "h", 0, 2, -5, v -> x -> x.show(v));
        bounds(ALL, "h", 0, 11, -5, v -> x -> x.show(v));

        says("How BRIGHT a LAMP is in a HOUSE as all is now (0: not LIT). -5.");
        bounds(WHOLE, "h", 0, 2, -5, v -> x -> x.bright(v, 0));
        bounds(WHOLE, "l", 0, 4, -5, v -> x -> x.bright(0, v));
        refused(WHOLE, "both", x -> x.bright(3, 5), -5);

        says("How BRIGHT all LAMPS of a ROOM are together. -5: no such HOUSE; -7: ROOM.");
        bounds(WHOLE, "h", 0, 2, -5, v -> x -> x.room(v, 0));
        bounds(WHOLE, "r", 0, 5, -7, v -> x -> x.room(0, v));
        refused(WHOLE, "-5 ahead of -7", x -> x.room(3, 6), -5);

        says("would change nothing of what is LIT now. -5: no such HOUSE.");
        bounds(WHOLE, "h", 0, 2, -5, v -> x -> x.nothing(v));
    }

    // ---- asks

    private static void asks() {
        says("with LAMPS (bits, all there) that were seen: its number. BAD; FULL.");
        bounds(WHOLE, "rooms", 0, 63, BAD, v -> x -> x.ask(v, 0));
        bounds(WHOLE, "seen", 0, 31, BAD, v -> x -> x.ask(63, v));
        bounds(WHOLE, "seen in no ROOM", 0, 0, BAD, v -> x -> x.ask(0, v));
        refused(WHOLE, "a LAMP elsewhere", x -> x.ask(1, 2), BAD);
        refused(WHOLE, "a LAMP elsewhere, too", x -> x.ask(1, 3), BAD);
        refused(ALL, "ROOMS, BAD ahead of FULL", x -> x.ask(64, 0), BAD);
        refused(ALL, "LAMPS, BAD ahead of FULL", x -> x.ask(63, 1024), BAD);
        refused(ALL, "FULL", x -> x.ask(63, 1023), FULL);

        says("The latest ASK is none any more: how many there are. STATE: there is none.");
        refused(NEW, "forget", x -> x.forget(), STATE);
        refused(LAMPS, "forget", x -> x.forget(), STATE);

        says("LAMPS (bits) in which a HOUSE is AMISS in an ASK. -5: no such HOUSE; -7: ASK.");
        bounds(WHOLE, "h", 0, 2, -5, v -> x -> x.amiss(v, 0));
        bounds(WHOLE, "k", 0, 1, -7, v -> x -> x.amiss(0, v));
        bounds(ALL, "k", 0, 9, -7, v -> x -> x.amiss(0, v));
        refused(WHOLE, "-5 ahead of -7", x -> x.amiss(3, 2), -5);

        says("How many in all ASKS together. -5: no such HOUSE.");
        bounds(WHOLE, "h", 0, 2, -5, v -> x -> x.miss(v));

        says("HOUSES (bits) that are AMISS in no more than most (0 .. 999) by miss(). BAD.");
        bounds(WHOLE, "most", 0, 999, BAD, v -> x -> x.near(v));
    }

    private static void parting() {
        says("how many the greatest has (1; 0). BAD.");
        bounds(WHOLE, "outs", 0, 7, BAD, v -> x -> x.parts(v, 63, 0));
        bounds(WHOLE, "rooms", 0, 63, BAD, v -> x -> x.parts(0, v, 0));
        bounds(WHOLE, "what", 0, 1, BAD, v -> x -> x.parts(0, 63, v));
        bounds(NEW, "outs of no FUSES", 0, 0, BAD, v -> x -> x.parts(v, 63, 0));

        says("how many the greatest KIND has (1). BAD; NONE: none is LET.");
        bounds(WHOLE, "rooms", 0, 63, BAD, v -> x -> x.next(v, 1, 0));
        bounds(WHOLE, "most", 0, 6, BAD, v -> x -> x.next(63, v, 0));
        bounds(WHOLE, "what", 0, 1, BAD, v -> x -> x.next(63, 1, v));
        answered(NONE_LET, "lets", x -> x.lets(), 0);
        refused(NONE_LET, "rooms, BAD ahead of NONE", x -> x.next(64, 1, 0), BAD);
        refused(NONE_LET, "most, BAD ahead of NONE", x -> x.next(63, 7, 0), BAD);
        refused(NONE_LET, "what, BAD ahead of NONE", x -> x.next(63, 1, 2), BAD);
        refused(NONE_LET, "NONE", x -> x.next(63, 1, 0), NONE);
        refused(NEW, "NONE", x -> x.next(63, 1, 1), NONE);

        says("how many are left at most (1). BAD; NONE: none is LET.");
        bounds(WHOLE, "rooms", 0, 63, BAD, v -> x -> x.ahead(v, 0));
        bounds(WHOLE, "what", 0, 1, BAD, v -> x -> x.ahead(63, v));
        refused(NONE_LET, "rooms, BAD ahead of NONE", x -> x.ahead(64, 0), BAD);
        refused(NONE_LET, "what, BAD ahead of NONE", x -> x.ahead(63, -1), BAD);
        refused(NONE_LET, "NONE", x -> x.ahead(63, 0), NONE);
        refused(NEW, "NONE", x -> x.ahead(63, 1), NONE);

        says("-1: it isn't LET, or NEXT leaves all. -5: no such HOUSE; -7: ROOMS, most.");
        bounds(WHOLE, "h", 0, 2, -5, v -> x -> x.plan(v, 63, 1));
        bounds(WHOLE, "rooms", 0, 63, -7, v -> x -> x.plan(0, v, 1));
        bounds(WHOLE, "most", 0, 6, -7, v -> x -> x.plan(0, 63, v));
        refused(WHOLE, "-5 ahead of -7", x -> x.plan(3, 64, 7), -5);
        refused(NONE_LET, "ROOMS, -7 ahead of -1", x -> x.plan(0, 64, 1), -7);
        refused(NONE_LET, "most, -7 ahead of -1", x -> x.plan(0, 63, 7), -7);
        answered(NONE_LET, "-1", x -> x.plan(0, 63, 1), -1);
    }

    private static void sure() {
        says("-1: they differ. -5: no such LAMP; STATE: none is LET.");
        bounds(WHOLE, "l", 0, 4, -5, v -> x -> x.sure(v));
        refused(NONE_LET, "-5 ahead of STATE", x -> x.sure(5), -5);
        refused(NONE_LET, "STATE", x -> x.sure(0), STATE);

        says("with some FUSES (bits) OUT. -5: no such LAMP; -7: FUSES.");
        bounds(WHOLE, "l", 0, 4, -5, v -> x -> x.live(v, 0));
        bounds(WHOLE, "outs", 0, 7, -7, v -> x -> x.live(0, v));
        bounds(ALL, "outs", 0, 63, -7, v -> x -> x.live(0, v));
        refused(WHOLE, "-5 ahead of -7", x -> x.live(5, 8), -5);

        says("with which OUT live() is 0. -5: no such LAMP.");
        bounds(WHOLE, "l", 0, 4, -5, v -> x -> x.dead(v));
    }

    // ---- lamps of unlike strength, labels, walls

    private static void strengths() {
        says("How many unlike SUMS a ROOM has (of no LAMP, too: 0). BAD.");
        bounds(WHOLE, "r", 0, 5, BAD, v -> x -> x.sums(v));

        says("with a SUM (0 .. 9999). BAD; NONE: none; STATE: there are two and more.");
        bounds(WHOLE, "r", 0, 5, BAD, v -> x -> x.which(v, 0));
        bounds(WHOLE, "sum", 0, 9999, BAD, v -> x -> x.which(0, v));
        refused(WHOLE, "both", x -> x.which(6, 10000), BAD);
        refused(WHOLE, "NONE", x -> x.which(0, 5), NONE);
        Made two = new Made("two LAMPS of 5", () -> {
            WhichSwitch x = new WhichSwitch();
            x.lamp(0, 5, 0, 0);
            x.lamp(0, 5, 0, 0);
            return x;
        });
        refused(two, "STATE", x -> x.which(0, 5), STATE);
        refused(two, "BAD", x -> x.which(0, -5), BAD);

        says("100 times the LAMP, and that; -1: none. BAD.");
        bounds(WHOLE, "r", 0, 5, BAD, v -> x -> x.put(v));
        answered(WHOLE, "-1", x -> x.put(5), -1);
    }

    private static void labels() {
        says("For how many LAMPS a LABEL tells the FUSE that feeds it in a HOUSE. -5.");
        bounds(WHOLE, "k", 0, 1, -5, v -> x -> x.agree(v, 0));
        bounds(ALL, "k", 0, 3, -5, v -> x -> x.agree(v, 0));
        bounds(WHOLE, "h", 0, 2, -5, v -> x -> x.agree(0, v));
        refused(WHOLE, "both", x -> x.agree(2, 3), -5);

        says("(0 by 1, if there are none). NO: LABEL, part.");
        bounds(WHOLE, "k", 0, 1, NO, v -> x -> x.odds(v, 0));
        bounds(WHOLE, "part", 0, 1, NO, v -> x -> x.odds(0, v));
        refused(WHOLE, "both", x -> x.odds(2, 2), NO);

        says("BAD: SHEET, ROOM, what; -11; BAD: its size, a number.");
        bounds(SHEETED, "s", 0, 3, BAD, v -> x -> x.wall(v, 0, 0));
        bounds(WHOLE, "r", 0, 5, BAD, v -> x -> x.wall(0, v, 0));
        bounds(WHOLE, "what", 0, 1, BAD, v -> x -> x.wall(0, 0, v));
        refused(WHOLE, "ROOM, BAD ahead of -11", x -> x.wall(3, 6, 0), BAD);
        refused(WHOLE, "what, BAD ahead of -11", x -> x.wall(3, 0, 2), BAD);
        refused(WHOLE, "-11", x -> x.wall(3, 0, 0), -11);
        int[] sizes = {0, 31, 40};
        for (int size : sizes) {
            Made sized = new Made("a SHEET of " + size, () -> {
                WhichSwitch x = new WhichSwitch();
                x.sheet(0, 2, size);
                return x;
            });
            refused(sized, "its size", x -> x.wall(0, 0, 0), BAD);
        }
        int[] numbers = {-1, 1000, MIN, MAX};
        for (int number : numbers) {
            Made told = new Made("a SHEET with " + number, () -> {
                WhichSwitch x = new WhichSwitch();
                row(x, 0, 2, 0, 999, number);
                return x;
            });
            refused(told, "a number", x -> x.wall(0, 0, 0), BAD);
        }
    }

    // ---- one thing broken, loads

    private static void broken() {
        says("just these LAMPS (bits, all there) being seen LIT");
        bounds(WHOLE, "seen", 0, 31, -7, v -> x -> x.broken(0, 63, v));
        refused(WHOLE, "a LAMP elsewhere", x -> x.broken(0, 1, 2), -7);
        refused(WHOLE, "a LAMP elsewhere, too", x -> x.broken(0, 1, 3), -7);
        refused(WHOLE, "a LAMP and no ROOM", x -> x.broken(0, 0, 1), -7);

        says("it would. -5: no such HOUSE; -7: ROOMS, LAMPS.");
        bounds(WHOLE, "h", 0, 2, -5, v -> x -> x.broken(v, 63, 0));
        bounds(WHOLE, "rooms", 0, 63, -7, v -> x -> x.broken(0, v, 0));
        refused(WHOLE, "ROOMS, -5 ahead of -7", x -> x.broken(3, 64, 0), -5);
        refused(WHOLE, "LAMPS, -5 ahead of -7", x -> x.broken(3, 63, 32), -5);
    }

    private static void loads() {
        says("together (a BORROWED one by its own). -5.");
        bounds(WHOLE, "h", 0, 2, -5, v -> x -> x.load(v, 0));
        bounds(WHOLE, "f", 0, 2, -5, v -> x -> x.load(0, v));
        refused(WHOLE, "both", x -> x.load(3, 3), -5);

        says("FUSES (bits) whose load() is more than BEARS. -5: no such HOUSE.");
        bounds(WHOLE, "h", 0, 2, -5, v -> x -> x.over(v));

        says("no FUSE being OUT, at THE HOUR. -5.");
        bounds(WHOLE, "h", 0, 2, -5, v -> x -> x.thick(v, 0));
        bounds(WHOLE, "f", 0, 2, -5, v -> x -> x.thick(0, v));
        refused(WHOLE, "both", x -> x.thick(3, 3), -5);

        says("load() of all FUSES together. -5: no such HOUSE.");
        bounds(WHOLE, "h", 0, 2, -5, v -> x -> x.meter(v));

        says("no more than off (0 .. 999) from what is told (0 .. 99999). BAD.");
        bounds(WHOLE, "told", 0, 99999, BAD, v -> x -> x.witness(v, 0));
        bounds(WHOLE, "off", 0, 999, BAD, v -> x -> x.witness(0, v));

        says("DARK (1). NO: none such.");
        bounds(WHOLE, "h", 0, 2, NO, v -> x -> x.order(v, 0));
        bounds(WHOLE, "what", 0, 1, NO, v -> x -> x.order(0, v));
        refused(WHOLE, "both", x -> x.order(3, 2), NO);
    }

    private static void drawn() {
        says("as all is now (1). BAD; STATE: no HOUSES.");
        bounds(WHOLE, "seed", 0, 99999, BAD, v -> x -> x.drawn(v, 63, 1));
        bounds(WHOLE, "rooms", 0, 63, BAD, v -> x -> x.drawn(0, v, 1));
        bounds(WHOLE, "what", 0, 1, BAD, v -> x -> x.drawn(0, 63, v));
        refused(NEW, "SEED, BAD ahead of STATE", x -> x.drawn(100000, 0, 0), BAD);
        refused(NEW, "ROOMS, BAD ahead of STATE", x -> x.drawn(0, 64, 0), BAD);
        refused(NEW, "what, BAD ahead of STATE", x -> x.drawn(0, 0, 2), BAD);
        refused(NEW, "STATE", x -> x.drawn(0, 0, 0), STATE);
        refused(LAMPS, "STATE", x -> x.drawn(99999, 63, 1), STATE);

        says("how many ASKS there are. STATE: there is none.");
        refused(NEW, "back", x -> x.back(), STATE);
        refused(LAMPS, "back", x -> x.back(), STATE);
    }

    // ---- the host

    private static void sheets() {
        says("BAD: SHEET, sort, n above 40; -14.");
        bounds(SHEETED, "s", 0, 3, BAD, v -> x -> x.sheet(v, 0, 1));
        bounds(SHEETED, "sort", -1, 2, BAD, v -> x -> x.sheet(0, v, 1));
        bounds(SHEETED, "n", 0, 40, -14, BAD, v -> x -> x.sheet(0, 0, v));
        bounds(SHEETED, "n of shorts", 0, 40, -14, BAD, v -> x -> x.sheet(1, 1, v));
        bounds(SHEETED, "n of ints", 0, 40, -14, BAD, v -> x -> x.sheet(2, 2, v));
        refused(WHOLE, "SHEET, BAD ahead of -14", x -> x.sheet(4, 0, -1), BAD);
        refused(WHOLE, "sort, BAD ahead of -14", x -> x.sheet(0, 3, -1), BAD);
        refused(WHOLE, "SHEET to be missing", x -> x.sheet(4, -1, 0), BAD);
        answered(WHOLE, "missing, n below 0", x -> x.sheet(0, -1, MIN), 1);
        answered(WHOLE, "missing, n above 40", x -> x.sheet(0, -1, MAX), 1);

        says("BAD: SHEET; -11; -12.");
        bounds(SHEETED, "s", 0, 3, BAD, v -> x -> x.cell(v, 0, 2));
        bounds(SHEETED, "i", 0, 4, -12, v -> x -> x.cell(0, v, 2));
        refused(WHOLE, "BAD ahead of -12", x -> x.cell(4, -1, 0), BAD);
        refused(WHOLE, "-11 ahead of -12", x -> x.cell(3, -1, 0), -11);
    }

    private static void copies() {
        says("BAD: SHEETS; -11; -13: unlike sorts; -12 (n below 0, too).");
        bounds(SHEETED, "s", 0, 3, BAD, v -> x -> x.copy(v, 0, 0, 1, 4));
        bounds(SHEETED, "other", 0, 3, BAD, v -> x -> x.copy(0, 0, v, 1, 4));
        bounds(SHEETED, "i", 0, 4, -12, v -> x -> x.copy(0, v, 1, 0, 1));
        bounds(SHEETED, "i of none", 0, 5, -12, v -> x -> x.copy(0, v, 1, 0, 0));
        bounds(SHEETED, "j", 0, 4, -12, v -> x -> x.copy(0, 0, 1, v, 1));
        bounds(SHEETED, "j of none", 0, 5, -12, v -> x -> x.copy(0, 0, 1, v, 0));
        bounds(SHEETED, "n", 0, 5, -12, v -> x -> x.copy(0, 0, 1, 0, v));
        bounds(SHEETED, "n from 2 on", 0, 3, -12, v -> x -> x.copy(0, 2, 1, 0, v));
        bounds(SHEETED, "n to 2 on", 0, 3, -12, v -> x -> x.copy(0, 0, 1, 2, v));
        refused(WHOLE, "SHEET, BAD ahead of -11", x -> x.copy(4, 0, 3, 0, 0), BAD);
        refused(WHOLE, "other, BAD ahead of -11", x -> x.copy(3, 0, -1, 0, 0), BAD);
        refused(WHOLE, "from a missing one, -11 ahead of -12", x -> x.copy(3, -1, 0, -1, -1), -11);
        refused(WHOLE, "to a missing one, -11 ahead of -12", x -> x.copy(0, -1, 3, -1, -1), -11);
        refused(WHOLE, "from a missing one to itself", x -> x.copy(3, 0, 3, 0, 0), -11);
        refused(WHOLE, "ints to bytes, -13 ahead of -12", x -> x.copy(0, -1, 1, -1, -1), -13);
        refused(WHOLE, "bytes to shorts", x -> x.copy(1, 0, 2, 0, 1), -13);
        refused(WHOLE, "none of shorts to ints", x -> x.copy(2, 0, 0, 0, 0), -13);
        refused(WHOLE, "n beyond an int", x -> x.copy(0, 1, 0, 1, MAX), -12);
        refused(WHOLE, "i and n below 0", x -> x.copy(0, MAX, 0, 0, MIN), -12);
    }

    private static void lampsBy() {
        says("BAD: SHEET, sort, n; -11; -13; -12: what stood ahead came.");
        bounds(SHEETED, "s", 0, 3, BAD, v -> x -> x.lampsBy(v, 2, 0, 1));
        bounds(SHEETED, "sort", 0, 2, BAD, v -> x -> x.lampsBy(0, v, 0, 1));
        bounds(SHEETED, "at", 0, 1, -12, v -> x -> x.lampsBy(0, 2, v, 1));
        bounds(SHEETED, "n", 0, 10, BAD, v -> x -> x.lampsBy(0, 2, 0, v));
        bounds(LAMPS, "at", 0, 4, -12, v -> x -> x.lampsBy(1, 0, v, 1));
        refused(WHOLE, "sort, BAD ahead of -11", x -> x.lampsBy(3, 3, 0, 1), BAD);
        refused(WHOLE, "sort of none, BAD ahead of -11", x -> x.lampsBy(3, -1, 0, 1), BAD);
        refused(WHOLE, "n, BAD ahead of -11", x -> x.lampsBy(3, 0, 0, 11), BAD);
        refused(WHOLE, "n, BAD ahead of -13", x -> x.lampsBy(0, 0, 0, -1), BAD);
        refused(WHOLE, "-11 ahead of -12", x -> x.lampsBy(3, 2, -1, 1), -11);
        refused(WHOLE, "-13 ahead of -12", x -> x.lampsBy(0, 1, -1, 1), -13);
        refused(WHOLE, "-12", x -> x.lampsBy(0, 2, -1, 1), -12);
        List<Long> two = Observed.of(RefusalsTest::lamps, x -> x.lampsBy(1, 0, 0, 2));
        List<Long> three = Observed.of(RefusalsTest::lamps, x -> x.lampsBy(1, 0, 0, 3));
        answered(LAMPS, "the third of two", x -> x.lampsBy(1, 0, 0, 3), -12);
        due("whether what came is as of two", two.equals(three) ? 1 : 0, 1);
        due("whether anything came", two.equals(LAMPS.seen) ? 0 : 1, 1);
    }

    private static void taken() {
        says("BAD: kind; -12: i; -11: nothing lies there; -13.");
        bounds(SHEETED, "i", 0, 15, -12, v -> x -> x.taken(v, 0));
        bounds(SHEETED, "kind", 0, 6, BAD, v -> x -> x.taken(0, v));
        refused(WHOLE, "BAD ahead of -12", x -> x.taken(16, 7), BAD);
        refused(WHOLE, "BAD ahead of -11", x -> x.taken(3, -1), BAD);
        refused(WHOLE, "no FUSE, -11 ahead of -13", x -> x.taken(3, 0), -11);
        refused(WHOLE, "no LAMP, -11 ahead of -13", x -> x.taken(11, 6), -11);
        refused(WHOLE, "a FUSE as a LAMP", x -> x.taken(2, 0), -13);
        refused(WHOLE, "a LAMP as a FUSE", x -> x.taken(10, 6), -13);
    }

    /** One call for each number that a refusal has. */
    private static void numbers() {
        says("NONE there is no such thing; BAD a number is not as told; STATE as told; FULL.");
        refused(ALL, "no such thing", x -> x.set(4, 0), -1);
        refused(ALL, "not as told", x -> x.set(2, 24), -2);
        refused(NEW, "as told", x -> x.forget(), -3);
        refused(ALL, "full", x -> x.fuse(1, 1), -4);

        says("The host's: -11 nothing there, -12 a place outside, -13 of another sort or KIND, -14 a size below 0.");
        refused(NEW, "nothing there", x -> x.cell(0, 0, 0), -11);
        refused(WHOLE, "a place outside", x -> x.cell(0, 5, 0), -12);
        refused(WHOLE, "of another sort", x -> x.lampsBy(0, 0, 0, 1), -13);
        refused(WHOLE, "of another KIND", x -> x.taken(6, 1), -13);
        refused(WHOLE, "a size below 0", x -> x.sheet(0, 2, -1), -14);
    }

    // ---- what is asked changes nothing

    private static void questions(Made on) {
        String[] names = {"count", "lampTold", "fedBy", "show", "bright", "room", "nothing", "amiss", "miss", "lets",
            "likeliest", "near", "parts", "next", "ahead", "plan", "bound", "sure", "grey", "live", "dead", "touch",
            "sums", "which", "put", "agree", "right", "odds", "wall", "broken", "load", "over", "thick", "meter",
            "witness", "order", "drawn", "taken", "copy of none", "lampsBy of none"};
        Call[] calls = {x -> x.count(11), x -> x.lampTold(1, 1), x -> x.fedBy(1, 1), x -> x.show(1),
            x -> x.bright(1, 0), x -> x.room(1, 0), x -> x.nothing(1), x -> x.amiss(1, 1), x -> x.miss(1),
            x -> x.lets(), x -> x.likeliest(), x -> x.near(3), x -> x.parts(1, 63, 1), x -> x.next(63, 2, 0),
            x -> x.ahead(63, 0), x -> x.plan(1, 63, 2), x -> x.bound(), x -> x.sure(0), x -> x.grey(),
            x -> x.live(1, 1), x -> x.dead(1), x -> x.touch(), x -> x.sums(0), x -> x.which(0, 10), x -> x.put(0),
            x -> x.agree(1, 1), x -> x.right(), x -> x.odds(1, 1), x -> x.wall(0, 0, 1), x -> x.broken(1, 63, 1),
            x -> x.load(1, 0), x -> x.over(1), x -> x.thick(1, 0), x -> x.meter(1), x -> x.witness(100, 99),
            x -> x.order(1, 1), x -> x.drawn(7, 63, 1), x -> x.taken(0, 6), x -> x.copy(0, 0, 0, 1, 0),
            x -> x.lampsBy(0, 2, 0, 0)};
        due("names", names.length, calls.length);
        for (int i = 0; i < calls.length; i++) {
            changesNothing(on, names[i], calls[i]);
        }
    }

    /** Calls that do change something must be seen to do so: else nothing that is seen would tell anything. */
    private static void changesAreSeen() {
        about("what changes is seen");
        String[] names = {"fuse", "OUT", "ON", "THE HOUR", "SLIPS", "feed", "text", "force", "house", "label", "ask",
            "forget", "image", "back", "sheet", "cell", "copy", "a byte's cell", "a short's cell"};
        Call[] calls = {x -> x.fuse(1, 1), x -> x.set(0, 3), x -> x.set(1, 2), x -> x.set(2, 1), x -> x.set(3, 99),
            x -> x.feed(0, 1), x -> x.text(), x -> x.force(2), x -> x.house(0), x -> x.label(1, 0), x -> x.ask(63, 0),
            x -> x.forget(), x -> x.image(), x -> x.back(), x -> x.sheet(3, 0, 0), x -> x.cell(0, 1, 2),
            x -> x.copy(0, 0, 0, 1, 2), x -> x.cell(1, 1, 8), x -> x.cell(2, 0, 8)};
        due("names", names.length, calls.length);
        for (int i = 0; i < calls.length; i++) {
            List<Long> after = Observed.of(WHOLE.maker, calls[i]::of);
            due("whether " + names[i] + " is seen", after.equals(WHOLE.seen) ? 0 : 1, 1);
        }
        List<Long> oneMore = Observed.of(LAMPS.maker, x -> x.lamp(0, 1, 0, 0));
        due("whether lamp is seen", oneMore.equals(LAMPS.seen) ? 0 : 1, 1);
    }

    public static void main(String[] args) {
        says("REFUSALS, of several the first one told (a -1 that is an answer comes behind the refusal of a number)");
        says("They change nothing.");
        changesAreSeen();
        numbers();
        fuses();
        lampsTold();
        texts();
        wired();
        houses();
        asks();
        parting();
        sure();
        strengths();
        labels();
        broken();
        loads();
        drawn();
        sheets();
        copies();
        lampsBy();
        taken();
        says("What is asked changes nothing, but where it is told.");
        questions(WHOLE);
        questions(ALL);
        questions(NONE_LET);
        end("the refusals");
    }
}
