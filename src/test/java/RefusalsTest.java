import java.util.HashMap;
import java.util.List;
import java.util.Map;
import java.util.function.IntFunction;
import java.util.function.Supplier;

/** The refusals: of each number of each call on both sides, of several the first one told, and that they change nothing. */
public final class RefusalsTest extends Checks {
    private interface Call {
        long of(WhichSwitch x);
    }

    // ---- what the calls are made of

    /** A new object. */
    private static WhichSwitch bare() {
        return new WhichSwitch();
    }

    /** Three FUSES and five LAMPS, one in each of ROOMS 0 .. 4, and SHEETS; nothing by which lamp() would be refused. */
    private static WhichSwitch lamps() {
        WhichSwitch x = new WhichSwitch();
        x.fuse(40, 2);
        x.fuse(0, 5);
        x.fuse(999, 3);
        x.lamp(0, 10, 0, 0);
        x.lamp(1, 20, 111, 3);
        x.lamp(2, 30, 212, 4);
        x.lamp(3, 40, 300, 2);
        x.lamp(5, 50, 412, 9);
        x.set(0, 2);
        x.set(1, 3);
        x.set(2, 12);
        x.set(3, 30);
        row(x, 0, 2, 0, 1, 2, 0, 1);
        row(x, 1, 0, 0, 9, 0, 0, 2, 9, 34, 5);
        row(x, 2, 1, 80, 90, 83, 70);
        return x;
    }

    /** Some of all there is, nothing at its most; SHEETS of ints, of bytes, of shorts, and a missing one. */
    private static WhichSwitch whole() {
        WhichSwitch x = lamps();
        x.house(0);
        x.label(1950, 0);
        x.cell(0, 0, 2);
        x.house(0);
        x.cell(0, 1, 0);
        x.house(0);
        x.label(1960, 0);
        text(x, "glow power + 1;tone 80;load 7 + more;");
        text(x, "glow power + 2;tone 70;load 8 + more;");
        feed(x, "glow 3;tone 4;load 5;");
        x.ask(1, 1);
        x.set(2, 5);
        x.image();
        x.force(1);
        x.set(0, 4);
        x.set(1, 129);
        x.set(2, 13);
        x.set(3, 44);
        x.forget();
        x.ask(1, 1);
        x.ask(2, 0);
        return x;
    }

    /** The same, and each SHEET would do as a HOUSE. */
    private static WhichSwitch sheeted() {
        WhichSwitch x = whole();
        for (int s = 0; s < 4; s++) {
            row(x, s, 2, 0, 1, 2, 0, s % 3);
        }
        return x;
    }

    /** All at its most: SHEET 0 would do as a HOUSE, SHEET 1 is too short, SHEET 2 has no such FUSE, SHEET 3 is missing. */
    private static WhichSwitch full() {
        WhichSwitch x = new WhichSwitch();
        for (int f = 0; f < 6; f++) {
            x.fuse(10 * f, 1 + f);
        }
        for (int l = 0; l < 10; l++) {
            x.lamp(l % 6, 9 + l, 100 * (l % 6) + 10 * (l % 3) + l % 4, l % 8);
        }
        row(x, 0, 2, 0, 1, 2, 3, 4, 5, 0, 1, 2, 3);
        for (int h = 0; h < 12; h++) {
            x.cell(0, h % 10, h % 6);
            x.house(0);
        }
        for (int k = 0; k < 4; k++) {
            x.label(1900 + k, 0);
        }
        row(x, 1, 2, 0, 1, 2, 3, 4, 5, 0, 1, 2);
        row(x, 2, 2, 0, 1, 2, 3, 4, 5, 0, 1, 2, 6);
        x.set(0, 33);
        x.set(1, 13);
        for (int k = 0; k < 10; k++) {
            x.ask(63, x.show(0));
        }
        x.image();
        x.set(0, 3);
        for (int t = 1; t < 6; t++) {
            text(x, "glow " + t + ";tone 1;load 1;");
        }
        feed(x, "glow 9;tone 9;load 9;" + " ".repeat(139));
        return x;
    }

    /** HOUSES of which none is LET. */
    private static WhichSwitch noneLet() {
        WhichSwitch x = whole();
        x.ask(63, 31);
        x.ask(63, 0);
        return x;
    }

    private static WhichSwitch housed() {
        WhichSwitch x = lamps();
        x.house(0);
        return x;
    }

    private static WhichSwitch labelled() {
        WhichSwitch x = lamps();
        x.label(1, 0);
        return x;
    }

    private static WhichSwitch asked() {
        WhichSwitch x = lamps();
        x.ask(0, 0);
        return x;
    }

    // ---- how they are tested

    private static final Map<String, List<Long>> SEEN = new HashMap<>();
    private static String made = "";
    private static Supplier<WhichSwitch> maker = RefusalsTest::bare;

    private static void by(String name, Supplier<WhichSwitch> one) {
        made = name;
        maker = one;
    }

    private static void changesNothing(String name, Call call) {
        List<Long> before = SEEN.computeIfAbsent(made, m -> Observed.of(maker, x -> { }));
        List<Long> after = Observed.of(maker, call::of);
        int unlike = 0;
        for (int i = 0; i < before.size(); i++) {
            unlike += before.get(i).equals(after.get(i)) ? 0 : 1;
        }
        due("what later calls show otherwise behind " + name + " on " + made, unlike, 0);
    }

    private static void refused(String name, Call call, long refusal) {
        due(name + " on " + made, call.of(maker.get()), refusal);
        changesNothing(name, call);
    }

    private static void answered(String name, Call call, long answer) {
        due(name + " on " + made, call.of(maker.get()), answer);
    }

    /** A number from least to most is taken; one below, one above and the furthest ones are refused. */
    private static void bounds(String name, int least, int most, long below, long above, IntFunction<Call> call) {
        int[] allowed = {least, most, least + (most - least) / 2};
        for (int v : allowed) {
            long got = call.apply(v).of(maker.get());
            due("whether " + name + " " + v + " on " + made + " is refused", got == below || got == above ? 1 : 0, 0);
        }
        int[] belows = {least - 1, MIN};
        for (int v : belows) {
            refused(name + " " + v, call.apply(v), below);
        }
        int[] aboves = {most + 1, MAX};
        for (int v : aboves) {
            refused(name + " " + v, call.apply(v), above);
        }
    }

    private static void bounds(String name, int least, int most, long refusal, IntFunction<Call> call) {
        bounds(name, least, most, refusal, refusal, call);
    }

    // ---- each number on both sides

    private static void toldBounds() {
        by("whole", RefusalsTest::whole);
        bounds("fuse: most", 0, 999, BAD, v -> x -> x.fuse(v, 1));
        bounds("fuse: time", 1, 99, BAD, v -> x -> x.fuse(1, v));
        bounds("set: what", 0, 3, NONE, v -> x -> x.set(v, 0));
        bounds("set: OUT", 0, 7, BAD, v -> x -> x.set(0, v));
        bounds("set: ON", 0, 255, BAD, v -> x -> x.set(1, v));
        bounds("set: THE HOUR", 0, 23, BAD, v -> x -> x.set(2, v));
        bounds("set: SLIPS", 0, 99, BAD, v -> x -> x.set(3, v));
        bounds("count: what", 0, 11, BAD, v -> x -> x.count(v));
        bounds("lampTold: l", 0, 4, -5, v -> x -> x.lampTold(v, 0));
        bounds("lampTold: what", 0, 5, -7, v -> x -> x.lampTold(0, v));
        bounds("feed: n", 1, 8, BAD, v -> x -> x.feed(0, v));
        bounds("force: t", 0, 2, BAD, v -> x -> x.force(v));
        by("lamps", RefusalsTest::lamps);
        bounds("lamp: kind", 0, 5, BAD, v -> x -> x.lamp(v, 1, 0, 0));
        bounds("lamp: power", 1, 99, BAD, v -> x -> x.lamp(0, v, 0, 0));
        bounds("lamp: where", 0, 577, BAD, v -> x -> x.lamp(0, 1, v / 10 % 10 > 7 ? 0 : v, 0));
        bounds("lamp: more", 0, 9, BAD, v -> x -> x.lamp(0, 1, 0, v));
        for (int where = -120; where < 720; where++) {
            int w = where;
            boolean good = where >= 0 && where < 600 && where / 10 % 10 < 8 && where % 10 < 8;
            answered("lamp: where " + where, x -> x.lamp(0, 1, w, 0), good ? 5 : BAD);
        }
    }

    private static void houseBounds() {
        by("sheeted", RefusalsTest::sheeted);
        bounds("house: s", 0, 3, BAD, v -> x -> x.house(v));
        by("whole", RefusalsTest::whole);
        bounds("fedBy: h", 0, 2, -5, v -> x -> x.fedBy(v, 0));
        bounds("fedBy: l", 0, 4, -5, v -> x -> x.fedBy(0, v));
        bounds("show: h", 0, 2, -5, v -> x -> x.show(v));
        bounds("bright: h", 0, 2, -5, v -> x -> x.bright(v, 0));
        bounds("bright: l", 0, 4, -5, v -> x -> x.bright(0, v));
        bounds("room: h", 0, 2, -5, v -> x -> x.room(v, 0));
        bounds("room: r", 0, 5, -7, v -> x -> x.room(0, v));
        bounds("nothing: h", 0, 2, -5, v -> x -> x.nothing(v));
    }

    private static void askBounds() {
        by("whole", RefusalsTest::whole);
        bounds("ask: rooms", 0, 63, BAD, v -> x -> x.ask(v, 0));
        bounds("ask: seen", 0, 31, BAD, v -> x -> x.ask(63, v));
        bounds("amiss: h", 0, 2, -5, v -> x -> x.amiss(v, 0));
        bounds("amiss: k", 0, 1, -7, v -> x -> x.amiss(0, v));
        bounds("miss: h", 0, 2, -5, v -> x -> x.miss(v));
        bounds("near: most", 0, 999, BAD, v -> x -> x.near(v));
        bounds("parts: outs", 0, 7, BAD, v -> x -> x.parts(v, 63, 0));
        bounds("parts: rooms", 0, 63, BAD, v -> x -> x.parts(0, v, 0));
        bounds("parts: what", 0, 1, BAD, v -> x -> x.parts(0, 63, v));
        bounds("next: rooms", 0, 63, BAD, v -> x -> x.next(v, 1, 0));
        bounds("next: most", 0, 6, BAD, v -> x -> x.next(63, v, 0));
        bounds("next: what", 0, 1, BAD, v -> x -> x.next(63, 1, v));
        bounds("ahead: rooms", 0, 63, BAD, v -> x -> x.ahead(v, 0));
        bounds("ahead: what", 0, 1, BAD, v -> x -> x.ahead(63, v));
        bounds("plan: h", 0, 2, -5, v -> x -> x.plan(v, 63, 1));
        bounds("plan: rooms", 0, 63, -7, v -> x -> x.plan(0, v, 1));
        bounds("plan: most", 0, 6, -7, v -> x -> x.plan(0, 63, v));
        bounds("sure: l", 0, 4, -5, v -> x -> x.sure(v));
        bounds("live: l", 0, 4, -5, v -> x -> x.live(v, 0));
        bounds("live: outs", 0, 7, -7, v -> x -> x.live(0, v));
        bounds("dead: l", 0, 4, -5, v -> x -> x.dead(v));
    }

    private static void otherBounds() {
        by("whole", RefusalsTest::whole);
        bounds("sums: r", 0, 5, BAD, v -> x -> x.sums(v));
        bounds("which: r", 0, 5, BAD, v -> x -> x.which(v, 0));
        bounds("which: sum", 0, 9999, BAD, v -> x -> x.which(0, v));
        bounds("put: r", 0, 5, BAD, v -> x -> x.put(v));
        bounds("label: y", 1, 9999, BAD, v -> x -> x.label(v, 0));
        bounds("agree: k", 0, 1, -5, v -> x -> x.agree(v, 0));
        bounds("agree: h", 0, 2, -5, v -> x -> x.agree(0, v));
        bounds("odds: k", 0, 1, NO, v -> x -> x.odds(v, 0));
        bounds("odds: part", 0, 1, NO, v -> x -> x.odds(0, v));
        bounds("wall: r", 0, 5, BAD, v -> x -> x.wall(0, v, 0));
        bounds("wall: what", 0, 1, BAD, v -> x -> x.wall(0, 0, v));
        bounds("broken: h", 0, 2, -5, v -> x -> x.broken(v, 63, 0));
        bounds("broken: rooms", 0, 63, -7, v -> x -> x.broken(0, v, 0));
        bounds("broken: seen", 0, 31, -7, v -> x -> x.broken(0, 63, v));
        bounds("load: h", 0, 2, -5, v -> x -> x.load(v, 0));
        bounds("load: f", 0, 2, -5, v -> x -> x.load(0, v));
        bounds("over: h", 0, 2, -5, v -> x -> x.over(v));
        bounds("thick: h", 0, 2, -5, v -> x -> x.thick(v, 0));
        bounds("thick: f", 0, 2, -5, v -> x -> x.thick(0, v));
        bounds("meter: h", 0, 2, -5, v -> x -> x.meter(v));
        bounds("witness: told", 0, 99999, BAD, v -> x -> x.witness(v, 0));
        bounds("witness: off", 0, 999, BAD, v -> x -> x.witness(0, v));
        bounds("order: h", 0, 2, NO, v -> x -> x.order(v, 0));
        bounds("order: what", 0, 1, NO, v -> x -> x.order(0, v));
        bounds("drawn: seed", 0, 99999, BAD, v -> x -> x.drawn(v, 63, 1));
        bounds("drawn: rooms", 0, 63, BAD, v -> x -> x.drawn(0, v, 1));
        bounds("drawn: what", 0, 1, BAD, v -> x -> x.drawn(0, 63, v));
        by("sheeted", RefusalsTest::sheeted);
        bounds("label: s", 0, 3, BAD, v -> x -> x.label(1, v));
        bounds("wall: s", 0, 3, BAD, v -> x -> x.wall(v, 0, 0));
    }

    private static void hostBounds() {
        by("sheeted", RefusalsTest::sheeted);
        bounds("sheet: s", 0, 3, BAD, v -> x -> x.sheet(v, 0, 1));
        bounds("sheet: sort", -1, 2, BAD, v -> x -> x.sheet(0, v, 1));
        bounds("sheet: n", 0, 40, -14, BAD, v -> x -> x.sheet(0, 0, v));
        bounds("cell: s", 0, 3, BAD, v -> x -> x.cell(v, 0, 2));
        bounds("cell: i", 0, 4, -12, v -> x -> x.cell(0, v, 2));
        bounds("copy: s", 0, 3, BAD, v -> x -> x.copy(v, 0, 0, 1, 4));
        bounds("copy: i", 0, 4, -12, v -> x -> x.copy(0, v, 1, 0, 1));
        bounds("copy: i of none", 0, 5, -12, v -> x -> x.copy(0, v, 1, 0, 0));
        bounds("copy: other", 0, 3, BAD, v -> x -> x.copy(0, 0, v, 1, 4));
        bounds("copy: j", 0, 4, -12, v -> x -> x.copy(0, 0, 1, v, 1));
        bounds("copy: j of none", 0, 5, -12, v -> x -> x.copy(0, 0, 1, v, 0));
        bounds("copy: n", 0, 5, -12, v -> x -> x.copy(0, 0, 1, 0, v));
        bounds("copy: n from 2 on", 0, 3, -12, v -> x -> x.copy(0, 2, 1, 0, v));
        bounds("copy: n to 2 on", 0, 3, -12, v -> x -> x.copy(0, 0, 1, 2, v));
        bounds("lampsBy: s", 0, 3, BAD, v -> x -> x.lampsBy(v, 2, 0, 1));
        bounds("lampsBy: sort", 0, 2, BAD, v -> x -> x.lampsBy(0, v, 0, 1));
        bounds("lampsBy: at", 0, 1, -12, v -> x -> x.lampsBy(0, 2, v, 1));
        bounds("lampsBy: n", 0, 10, BAD, v -> x -> x.lampsBy(0, 2, 0, v));
        bounds("taken: i", 0, 15, -12, v -> x -> x.taken(v, 0));
        bounds("taken: kind", 0, 6, BAD, v -> x -> x.taken(0, v));
    }

    // ---- of several the first one told

    private static void toldOrders() {
        by("full", RefusalsTest::full);
        refused("fuse: BAD ahead of FULL, most", x -> x.fuse(1000, 1), BAD);
        refused("fuse: BAD ahead of FULL, time", x -> x.fuse(0, 100), BAD);
        refused("fuse: FULL", x -> x.fuse(0, 1), FULL);
        refused("lamp: BAD ahead of FULL, kind", x -> x.lamp(6, 1, 0, 0), BAD);
        refused("lamp: BAD ahead of FULL, power", x -> x.lamp(0, 0, 0, 0), BAD);
        refused("lamp: BAD ahead of FULL, where", x -> x.lamp(0, 1, 600, 0), BAD);
        refused("lamp: BAD ahead of FULL, more", x -> x.lamp(0, 1, 0, 10), BAD);
        refused("lamp: FULL ahead of STATE", x -> x.lamp(0, 1, 0, 0), FULL);
        refused("feed: BAD ahead of FULL", x -> x.feed(0, 9), BAD);
        refused("feed: FULL", x -> x.feed(0, 1), FULL);
        refused("text: FULL", x -> x.text(), FULL);
        by("full, THE TAPE with a FAULT", () -> {
            WhichSwitch x = new WhichSwitch();
            for (int t = 1; t < 6; t++) {
                text(x, "glow " + t + ";tone 1;load 1;");
            }
            feed(x, "glow ;");
            return x;
        });
        refused("text: FULL ahead of the FAULT", x -> x.text(), FULL);
        by("whole", RefusalsTest::whole);
        refused("set: NONE ahead of BAD", x -> x.set(4, -1), NONE);
        refused("set: NONE ahead of BAD, below", x -> x.set(-1, MAX), NONE);
        refused("lamp: BAD ahead of STATE", x -> x.lamp(0, 1, 0, -1), BAD);
        refused("lampTold: -5 ahead of -7", x -> x.lampTold(5, 6), -5);
        by("a HOUSE alone", RefusalsTest::housed);
        refused("lamp: STATE", x -> x.lamp(0, 1, 0, 0), STATE);
        by("a LABEL alone", RefusalsTest::labelled);
        refused("lamp: STATE", x -> x.lamp(0, 1, 0, 0), STATE);
        by("an ASK alone", RefusalsTest::asked);
        refused("lamp: STATE", x -> x.lamp(0, 1, 0, 0), STATE);
        by("a TAPE of 159", () -> {
            WhichSwitch x = new WhichSwitch();
            feed(x, "glow 9;tone 9;load 9;" + " ".repeat(138));
            return x;
        });
        refused("feed: FULL by the second of two", x -> x.feed(0, 2), FULL);
        refused("feed: FULL by the last seven", x -> x.feed(0, 8), FULL);
        answered("feed: the last", x -> x.feed(0, 1), 160);
    }

    private static void wiredOrders() {
        by("full", RefusalsTest::full);
        refused("house: BAD, no SHEET", x -> x.house(4), BAD);
        refused("house: -11 ahead of FULL", x -> x.house(3), -11);
        refused("house: BAD ahead of FULL, size", x -> x.house(1), BAD);
        refused("house: BAD ahead of FULL, number", x -> x.house(2), BAD);
        refused("house: FULL", x -> x.house(0), FULL);
        refused("label: BAD, year and SHEET", x -> x.label(0, 4), BAD);
        refused("label: BAD ahead of -11, year", x -> x.label(0, 3), BAD);
        refused("label: BAD ahead of FULL, year", x -> x.label(10000, 0), BAD);
        refused("label: -11 ahead of FULL", x -> x.label(1, 3), -11);
        refused("label: BAD ahead of FULL, size", x -> x.label(1, 1), BAD);
        refused("label: BAD ahead of FULL, number", x -> x.label(1, 2), BAD);
        refused("label: FULL", x -> x.label(1, 0), FULL);
        by("whole", RefusalsTest::whole);
        refused("house: -11", x -> x.house(3), -11);
        refused("house: BAD, size and number", x -> x.house(2), BAD);
        refused("label: -11", x -> x.label(1, 3), -11);
        refused("label: BAD, size and number", x -> x.label(1, 2), BAD);
        refused("bright: -5 of both", x -> x.bright(3, 5), -5);
        refused("fedBy: -5 of both", x -> x.fedBy(3, 5), -5);
        refused("agree: -5 of both", x -> x.agree(2, 3), -5);
        refused("load: -5 of both", x -> x.load(3, 3), -5);
        refused("thick: -5 of both", x -> x.thick(3, 3), -5);
        refused("odds: NO of both", x -> x.odds(2, 2), NO);
        refused("order: NO of both", x -> x.order(3, 2), NO);
        refused("room: -5 ahead of -7", x -> x.room(3, 6), -5);
        refused("broken: -5 ahead of -7, ROOMS", x -> x.broken(3, 64, 0), -5);
        refused("broken: -5 ahead of -7, LAMPS", x -> x.broken(3, 63, 32), -5);
        refused("broken: -7, a LAMP elsewhere", x -> x.broken(0, 1, 2), -7);
        refused("broken: -7, a LAMP beside", x -> x.broken(0, 1, 3), -7);
        refused("broken: -7, a LAMP and no ROOM", x -> x.broken(0, 0, 1), -7);
    }

    private static void askOrders() {
        by("full", RefusalsTest::full);
        refused("ask: BAD ahead of FULL, ROOMS", x -> x.ask(64, 0), BAD);
        refused("ask: BAD ahead of FULL, LAMPS", x -> x.ask(63, 1024), BAD);
        refused("ask: FULL", x -> x.ask(63, 1023), FULL);
        by("whole", RefusalsTest::whole);
        refused("ask: BAD, a LAMP elsewhere", x -> x.ask(1, 2), BAD);
        refused("ask: BAD, a LAMP beside", x -> x.ask(1, 3), BAD);
        refused("ask: BAD, a LAMP and no ROOM", x -> x.ask(0, 1), BAD);
        refused("amiss: -5 ahead of -7", x -> x.amiss(3, 2), -5);
        refused("live: -5 ahead of -7", x -> x.live(5, 8), -5);
        refused("plan: -5 ahead of -7", x -> x.plan(3, 64, 7), -5);
        by("none is LET", RefusalsTest::noneLet);
        answered("lets", x -> x.lets(), 0);
        refused("next: BAD ahead of NONE, rooms", x -> x.next(64, 1, 0), BAD);
        refused("next: BAD ahead of NONE, most", x -> x.next(63, 7, 0), BAD);
        refused("next: BAD ahead of NONE, what", x -> x.next(63, 1, 2), BAD);
        refused("next: NONE", x -> x.next(63, 1, 0), NONE);
        refused("next: NONE", x -> x.next(0, 0, 1), NONE);
        refused("ahead: BAD ahead of NONE, rooms", x -> x.ahead(64, 0), BAD);
        refused("ahead: BAD ahead of NONE, what", x -> x.ahead(63, -1), BAD);
        refused("ahead: NONE", x -> x.ahead(63, 0), NONE);
        refused("plan: -7 ahead of -1, ROOMS", x -> x.plan(0, 64, 1), -7);
        refused("plan: -7 ahead of -1, most", x -> x.plan(0, 63, 7), -7);
        answered("plan: -1", x -> x.plan(0, 63, 1), -1);
        refused("sure: -5 ahead of STATE", x -> x.sure(5), -5);
        refused("sure: STATE", x -> x.sure(0), STATE);
        by("a new one", RefusalsTest::bare);
        refused("forget: STATE", x -> x.forget(), STATE);
        refused("back: STATE", x -> x.back(), STATE);
        refused("next: NONE", x -> x.next(63, 1, 0), NONE);
        refused("ahead: NONE", x -> x.ahead(63, 1), NONE);
        refused("drawn: BAD ahead of STATE, SEED", x -> x.drawn(100000, 0, 0), BAD);
        refused("drawn: BAD ahead of STATE, ROOMS", x -> x.drawn(0, 64, 0), BAD);
        refused("drawn: BAD ahead of STATE, what", x -> x.drawn(0, 0, 2), BAD);
        refused("drawn: STATE", x -> x.drawn(0, 0, 0), STATE);
        refused("drawn: STATE", x -> x.drawn(99999, 63, 1), STATE);
    }

    private static void hostOrders() {
        by("whole", RefusalsTest::whole);
        refused("sheet: BAD ahead of -14, SHEET", x -> x.sheet(4, 0, -1), BAD);
        refused("sheet: BAD ahead of -14, sort", x -> x.sheet(0, 3, -1), BAD);
        refused("sheet: BAD, SHEET to be missing", x -> x.sheet(4, -1, 0), BAD);
        answered("sheet: n of none below 0", x -> x.sheet(0, -1, MIN), 1);
        answered("sheet: n of none above 40", x -> x.sheet(0, -1, MAX), 1);
        refused("cell: BAD ahead of -12", x -> x.cell(4, -1, 0), BAD);
        refused("cell: -11 ahead of -12", x -> x.cell(3, -1, 0), -11);
        refused("copy: BAD ahead of -11, SHEET", x -> x.copy(4, 0, 3, 0, 0), BAD);
        refused("copy: BAD ahead of -11, other", x -> x.copy(3, 0, -1, 0, 0), BAD);
        refused("copy: -11 ahead of -12, from", x -> x.copy(3, -1, 0, -1, -1), -11);
        refused("copy: -11 ahead of -12, to", x -> x.copy(0, -1, 3, -1, -1), -11);
        refused("copy: -13 ahead of -12, ints to bytes", x -> x.copy(0, -1, 1, -1, -1), -13);
        refused("copy: -13, bytes to shorts", x -> x.copy(1, 0, 2, 0, 1), -13);
        refused("copy: -13, of no numbers", x -> x.copy(2, 0, 0, 0, 0), -13);
        refused("copy: -12, n beyond an int", x -> x.copy(0, 1, 0, 1, MAX), -12);
        refused("copy: -12, i and n to 0", x -> x.copy(0, MAX, 0, 0, MIN), -12);
        refused("lampsBy: BAD ahead of -11, sort", x -> x.lampsBy(3, 3, 0, 1), BAD);
        refused("lampsBy: BAD ahead of -11, sort of none", x -> x.lampsBy(3, -1, 0, 1), BAD);
        refused("lampsBy: BAD ahead of -11, n", x -> x.lampsBy(3, 0, 0, 11), BAD);
        refused("lampsBy: BAD ahead of -13, n", x -> x.lampsBy(0, 0, 0, -1), BAD);
        refused("lampsBy: -11 ahead of -12", x -> x.lampsBy(3, 2, -1, 1), -11);
        refused("lampsBy: -13 ahead of -12", x -> x.lampsBy(0, 1, -1, 1), -13);
        refused("lampsBy: -12", x -> x.lampsBy(0, 2, -1, 1), -12);
        refused("taken: BAD ahead of -12", x -> x.taken(16, 7), BAD);
        refused("taken: BAD ahead of -11", x -> x.taken(3, -1), BAD);
        refused("taken: -11 ahead of -13, FUSE", x -> x.taken(3, 0), -11);
        refused("taken: -11 ahead of -13, LAMP", x -> x.taken(11, 6), -11);
        refused("taken: -13, FUSE", x -> x.taken(2, 0), -13);
        refused("taken: -13, LAMP", x -> x.taken(10, 6), -13);
        refused("wall: BAD ahead of -11, SHEET", x -> x.wall(4, 0, 0), BAD);
        refused("wall: BAD ahead of -11, ROOM", x -> x.wall(3, 6, 0), BAD);
        refused("wall: BAD ahead of -11, what", x -> x.wall(3, 0, 2), BAD);
        refused("wall: -11", x -> x.wall(3, 0, 0), -11);
        refused("which: BAD of both", x -> x.which(6, 10000), BAD);
        refused("which: NONE", x -> x.which(0, 5), NONE);
    }

    // ---- what is asked changes nothing

    private static void questionsOf(String madeName, Supplier<WhichSwitch> one) {
        by(madeName, one);
        String[] names = {"count", "lampTold", "fedBy", "show", "bright", "room", "nothing", "amiss", "miss", "lets",
            "likeliest", "near", "parts", "next", "ahead", "plan", "bound", "sure", "grey", "live", "dead", "touch",
            "sums", "which", "put", "agree", "right", "odds", "wall", "broken", "load", "over", "thick", "meter",
            "witness", "order", "drawn", "taken", "copy of none", "lampsBy of none"};
        Call[] calls = {x -> x.count(11), x -> x.lampTold(1, 1), x -> x.fedBy(1, 1), x -> x.show(1),
            x -> x.bright(1, 0), x -> x.room(1, 0), x -> x.nothing(1), x -> x.amiss(1, 1), x -> x.miss(1),
            x -> x.lets(), x -> x.likeliest(), x -> x.near(3), x -> x.parts(1, 63, 1), x -> x.next(63, 2, 0),
            x -> x.ahead(63, 0), x -> x.plan(1, 63, 2), x -> x.bound(), x -> x.sure(0), x -> x.grey(),
            x -> x.live(1, 1), x -> x.dead(1), x -> x.touch(), x -> x.sums(0), x -> x.which(0, 10), x -> x.put(0),
            x -> x.agree(1, 1), x -> x.right(), x -> x.odds(1, 1), x -> x.wall(0, 0, 1), x -> x.broken(1, 63, 1),
            x -> x.load(1, 0), x -> x.over(1), x -> x.thick(1, 0), x -> x.meter(1), x -> x.witness(100, 99),
            x -> x.order(1, 1), x -> x.drawn(7, 63, 1), x -> x.taken(0, 6), x -> x.copy(0, 0, 0, 1, 0),
            x -> x.lampsBy(0, 2, 0, 0)};
        due("names", names.length, calls.length);
        for (int i = 0; i < calls.length; i++) {
            changesNothing(names[i], calls[i]);
        }
    }

    /** Calls that do change something must be seen to do so: else nothing that was seen above would tell anything. */
    private static void changesAreSeen() {
        by("whole", RefusalsTest::whole);
        String[] names = {"fuse", "OUT", "ON", "THE HOUR", "SLIPS", "feed", "text", "force", "house", "label", "ask",
            "forget", "image", "back", "sheet", "cell", "copy", "a byte's cell", "a short's cell"};
        Call[] calls = {x -> x.fuse(1, 1), x -> x.set(0, 3), x -> x.set(1, 2), x -> x.set(2, 1), x -> x.set(3, 99),
            x -> x.feed(0, 1), x -> x.text(), x -> x.force(2), x -> x.house(0), x -> x.label(1, 0), x -> x.ask(63, 0),
            x -> x.forget(), x -> x.image(), x -> x.back(), x -> x.sheet(3, 0, 0), x -> x.cell(0, 1, 2),
            x -> x.copy(0, 0, 0, 1, 2), x -> x.cell(1, 1, 8), x -> x.cell(2, 0, 8)};
        due("names", names.length, calls.length);
        List<Long> before = Observed.of(maker, x -> { });
        for (int i = 0; i < calls.length; i++) {
            due("whether " + names[i] + " is seen", Observed.of(maker, calls[i]::of).equals(before) ? 0 : 1, 1);
        }
        List<Long> noLamp = Observed.of(RefusalsTest::lamps, x -> { });
        List<Long> oneMore = Observed.of(RefusalsTest::lamps, x -> x.lamp(0, 1, 0, 0));
        due("whether lamp is seen", noLamp.equals(oneMore) ? 0 : 1, 1);
    }

    public static void main(String[] args) {
        says("They change nothing.");
        changesAreSeen();
        toldBounds();
        houseBounds();
        askBounds();
        otherBounds();
        hostBounds();
        says("REFUSALS, of several the first one told (a -1 that is an answer comes behind the refusal of a number)");
        toldOrders();
        wiredOrders();
        askOrders();
        hostOrders();
        says("What is asked changes nothing, but where it is told.");
        questionsOf("whole", RefusalsTest::whole);
        questionsOf("full", RefusalsTest::full);
        questionsOf("none is LET", RefusalsTest::noneLet);
        end("the refusals");
    }
}
