import java.util.ArrayList;
import java.util.List;
import java.util.function.Consumer;
import java.util.function.Supplier;

/** All that later calls show of an object, so that two objects can be told to be alike. */
final class Observed {
    private final List<Long> answers = new ArrayList<>();

    private Observed() {}

    private interface Look {
        void at(WhichSwitch x, Observed to);
    }

    /** Each look has an object of its own, so that none makes more than 512 calls and none spoils another's. */
    private static final Look[] LOOKS = {
        Observed::numbers, Observed::wires, Observed::lights, Observed::asks, Observed::parts, Observed::sure,
        Observed::loads, Observed::rooms, Observed::sheets, Observed::wiredBy, Observed::lampsBy, Observed::tape,
        Observed::image, Observed::added
    };

    /** What an object answers that was made so and then had a call. */
    static List<Long> of(Supplier<WhichSwitch> made, Consumer<WhichSwitch> call) {
        Observed to = new Observed();
        for (Look look : LOOKS) {
            WhichSwitch x = made.get();
            call.accept(x);
            look.at(x, to);
        }
        return to.answers;
    }

    private void add(long answer) {
        answers.add(answer);
    }

    private static void numbers(WhichSwitch x, Observed to) {
        for (int what = 0; what < 12; what++) {
            to.add(x.count(what));
        }
        for (int l = 0; l < 10; l++) {
            for (int what = 0; what < 6; what++) {
                to.add(x.lampTold(l, what));
            }
        }
        for (int i = 0; i < 16; i++) {
            to.add(x.taken(i, 6));
            to.add(x.taken(i, 0));
        }
    }

    private static void wires(WhichSwitch x, Observed to) {
        for (int h = 0; h < 12; h++) {
            for (int l = 0; l < 10; l++) {
                to.add(x.fedBy(h, l));
            }
            to.add(x.show(h));
            to.add(x.nothing(h));
            for (int k = 0; k < 10; k++) {
                to.add(x.amiss(h, k));
            }
        }
    }

    private static void lights(WhichSwitch x, Observed to) {
        for (int h = 0; h < 12; h++) {
            for (int l = 0; l < 10; l++) {
                to.add(x.bright(h, l));
            }
            for (int r = 0; r < 6; r++) {
                to.add(x.room(h, r));
            }
        }
    }

    private static void asks(WhichSwitch x, Observed to) {
        for (int h = 0; h < 12; h++) {
            to.add(x.miss(h));
        }
        for (int most = 0; most < 30; most++) {
            to.add(x.near(most));
        }
        to.add(x.lets());
        to.add(x.likeliest());
        to.add(x.bound());
        for (int k = 0; k < 4; k++) {
            for (int h = 0; h < 12; h++) {
                to.add(x.agree(k, h));
            }
            to.add(x.odds(k, 0));
            to.add(x.odds(k, 1));
        }
        to.add(x.right());
        for (int k = 9; k >= 0; k--) {
            to.add(x.forget());
            to.add(x.lets());
        }
    }

    private static void parts(WhichSwitch x, Observed to) {
        for (int outs = 0; outs < 64; outs += 5) {
            to.add(x.parts(outs, 63, 0));
            to.add(x.parts(outs, 63, 1));
        }
        for (int most = 0; most < 3; most++) {
            to.add(x.next(63, most, 0));
        }
        to.add(x.ahead(63, 0));
        for (int h = 0; h < 12; h++) {
            to.add(x.plan(h, 63, 1));
        }
    }

    private static void sure(WhichSwitch x, Observed to) {
        for (int l = 0; l < 10; l++) {
            to.add(x.sure(l));
            to.add(x.dead(l));
            for (int outs = 0; outs < 64; outs += 9) {
                to.add(x.live(l, outs));
            }
        }
        to.add(x.grey());
        to.add(x.touch());
    }

    private static void loads(WhichSwitch x, Observed to) {
        for (int h = 0; h < 12; h++) {
            for (int f = 0; f < 6; f++) {
                to.add(x.load(h, f));
            }
            to.add(x.thick(h, h % 3));
            to.add(x.over(h));
            to.add(x.meter(h));
            to.add(x.order(h, 0));
            to.add(x.order(h, 1));
        }
        to.add(x.witness(100, 99));
    }

    private static void rooms(WhichSwitch x, Observed to) {
        for (int r = 0; r < 6; r++) {
            to.add(x.sums(r));
            to.add(x.put(r));
            for (int sum = 0; sum < 40; sum += 3) {
                to.add(x.which(r, sum));
            }
        }
        for (int h = 0; h < 12; h++) {
            to.add(x.broken(h, 63, 0));
            to.add(x.broken(h, 1, 1));
        }
        for (int seed = 0; seed < 20; seed++) {
            to.add(x.drawn(seed, 63, 0));
            to.add(x.drawn(seed, 63, 1));
        }
    }

    private static void sheets(WhichSwitch x, Observed to) {
        for (int s = 0; s < 4; s++) {
            int size = 0;
            while (size < 40 && x.copy(s, size + 1, s, size + 1, 0) == 0) {
                size++;
            }
            to.add(size);
            for (int sort = 0; sort < 3; sort++) {
                to.add(x.lampsBy(s, sort, 0, 0));
            }
            to.add(x.wall(s, 0, 0));
            to.add(x.wall(s, 0, 1));
        }
        for (int i = 0; i < 40; i++) {
            // each number alone, by a SHEET of its sort
            x.sheet(3, 2, 1);
            to.add(x.copy(0, i, 3, 0, 1));
            to.add(x.wall(3, 0, 1));
        }
    }

    private static void wiredBy(WhichSwitch x, Observed to) {
        for (int s = 0; s < 4; s++) {
            to.add(x.label(7000 + s, s));
            int h = x.house(s);
            to.add(h);
            for (int l = 0; l < 10; l++) {
                to.add(x.fedBy(h, l));
            }
        }
        to.add(x.right());
    }

    private static void lampsBy(WhichSwitch x, Observed to) {
        int first = x.count(5);
        for (int s = 0; s < 4; s++) {
            for (int sort = 0; sort < 3; sort++) {
                for (int at = 0; at < 8; at++) {
                    to.add(x.lampsBy(s, sort, at, 1));
                }
            }
        }
        for (int l = first; l < x.count(5); l++) {
            for (int what = 0; what < 6; what++) {
                to.add(x.lampTold(l, what));
            }
        }
    }

    private static void tape(WhichSwitch x, Observed to) {
        to.add(x.text());
        to.add(x.count(11));
        for (int t = 0; t < 6; t++) {
            to.add(x.force(t));
            to.add(x.count(10));
            for (int h = 0; h < 3; h++) {
                to.add(x.room(h, 0));
                to.add(x.meter(h));
            }
            to.add(x.wall(2, 0, 1));
        }
        to.add(x.feed(0x676C6F7720313BL, 7));
        to.add(x.text());
    }

    private static void image(WhichSwitch x, Observed to) {
        to.add(x.back());
        for (int what = 0; what < 12; what++) {
            to.add(x.count(what));
        }
        for (int h = 0; h < 12; h++) {
            for (int k = 0; k < 10; k++) {
                to.add(x.amiss(h, k));
            }
            to.add(x.show(h));
        }
    }

    private static void added(WhichSwitch x, Observed to) {
        to.add(x.fuse(1, 1));
        to.add(x.lamp(3, 1, 0, 5));
        to.add(x.ask(63, 0));
        to.add(x.image());
        for (int what = 0; what < 12; what++) {
            to.add(x.count(what));
        }
        for (int h = 0; h < 12; h++) {
            to.add(x.show(h));
            to.add(x.miss(h));
        }
    }
}
