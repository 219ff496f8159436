import java.io.IOException;
import java.io.UncheckedIOException;
import java.nio.file.Files;
import java.nio.file.Path;

/** What the tests have in common: counting what was wrong, and objects built in few words. */
abstract class Checks {
    static final int NONE = WhichSwitch.NONE, BAD = WhichSwitch.BAD, STATE = WhichSwitch.STATE, FULL = WhichSwitch.FULL;
    static final long NO = WhichSwitch.NO;
    static final int MIN = Integer.MIN_VALUE, MAX = Integer.MAX_VALUE;

    private static String document = "";
    private static String about = "";
    private static int sentences = 0;
    private static int checks = 0;
    private static int wrong = 0;

    static void about(String words) {
        about = words;
    }

    /** What follows tests these words, which must stand in the document. */
    static void says(String words) {
        about(words);
        sentences++;
        due("whether these words stand in DOC.md", document().contains(words) ? 1 : 0, 1);
    }

    private static String document() {
        if (document.isEmpty()) {
            try {
                document = Files.readString(Path.of("../shared/DOC.md"));
            } catch (IOException e) {
                throw new UncheckedIOException(e);
            }
        }
        return document;
    }

    static void due(String call, long got, long want) {
        checks++;
        if (got != want) {
            wrong++;
            System.out.println(about + ": " + call + " answered " + got + ", due is " + want);
        }
    }

    static void end(String of) {
        String under = sentences > 0 ? " under " + sentences + " sentences" : "";
        System.out.println(checks + " checks" + under + " of " + of + ", " + wrong + " wrong");
        if (wrong != 0) {
            System.exit(1);
        }
    }

    // ---- objects in few words

    static void row(WhichSwitch x, int s, int sort, int... numbers) {
        x.sheet(s, sort, numbers.length);
        for (int i = 0; i < numbers.length; i++) {
            x.cell(s, i, numbers[i]);
        }
    }

    static int house(WhichSwitch x, int... fuses) {
        row(x, 3, 2, fuses);
        return x.house(3);
    }

    static int label(WhichSwitch x, int year, int... fuses) {
        row(x, 3, 2, fuses);
        return x.label(year, 3);
    }

    static void feed(WhichSwitch x, String s) {
        for (int i = 0; i < s.length(); i += 8) {
            int n = Math.min(8, s.length() - i);
            long w = 0;
            for (int k = 0; k < n; k++) {
                w = w << 8 | s.charAt(i + k);
            }
            x.feed(w, n);
        }
    }

    static int text(WhichSwitch x, String s) {
        feed(x, s);
        return x.text();
    }

    /** What a new object answers to a TEXT: 1, or its FAULT. */
    static int fault(String s) {
        return text(new WhichSwitch(), s);
    }

    static void law(WhichSwitch x, String s) {
        int t = text(x, s);
        due("text of " + s + " is one", t > 0 ? 1 : t, 1);
        x.force(t);
    }

    static WhichSwitch fused(int n) {
        WhichSwitch x = new WhichSwitch();
        for (int f = 0; f < n; f++) {
            x.fuse(100, 1);
        }
        return x;
    }

    /** FUSES, and JOINS of POWER 10 in ROOM 0 by SWITCH 0, which is ON. */
    static WhichSwitch plain(int fuses, int lamps) {
        WhichSwitch x = fused(fuses);
        for (int l = 0; l < lamps; l++) {
            x.lamp(0, 10, 0, 0);
        }
        x.set(1, 1);
        return x;
    }

    /** HOUSES of one LAMP in ROOM 0, LIT when FED: told by the FUSE that feeds it in each. */
    static WhichSwitch ofOne(int fuses, int... by) {
        WhichSwitch x = plain(fuses, 1);
        for (int f : by) {
            house(x, f);
        }
        return x;
    }

    /** HOUSES of two LAMPS and six FUSES, told by two digits each: the FUSES. */
    static WhichSwitch ofTwo(int... by) {
        WhichSwitch x = plain(6, 2);
        for (int both : by) {
            house(x, both / 10, both % 10);
        }
        return x;
    }

    /** What glow says of a LAMP of POWER 7, ROOM 2, MORE 5 at HOUR 9, or the refusal of the TEXT. */
    static int glow(String e) {
        WhichSwitch x = fused(1);
        x.lamp(0, 7, 200, 5);
        x.set(1, 1);
        x.set(2, 9);
        house(x, 0);
        int t = text(x, "glow " + e + ";tone 0;load 0;");
        if (t < 0) {
            return t;
        }
        x.force(t);
        return x.bright(0, 0);
    }

    static int bit(int n) {
        return 1 << n;
    }
}
