import java.util.ArrayList;
import java.util.HashMap;
import java.util.List;
import java.util.Map;
import java.util.Random;
import java.util.TreeMap;
import java.util.TreeSet;

/** Runs of calls drawn from fixed seeds, each answer against a second, slower reading of the document. */
public final class ModelTest {
    // ---- the second reading: nothing is stored but what was told; all is worked out anew by lists and maps

    private record Lamp(int kind, int power, int room, int x, int y, int more) {}

    private record Ask(int out, int on, int hour, int rooms, int seen) {}

    private record Label(int year, List<Integer> fuses) {}

    private static final class Fault extends RuntimeException {
        final int place;

        Fault(int place) {
            this.place = place;
        }
    }

    /** Works an E out at once while it reads it. */
    private static final class Reading {
        final String s;
        final Map<String, Integer> names;
        final List<Object[]> tokens = new ArrayList<>();
        int at = 0;
        int open = 0;

        Reading(String s, Map<String, Integer> names) {
            this.s = s;
            this.names = names;
            int i = 0;
            while (i < s.length()) {
                char c = s.charAt(i);
                int j = i;
                if (c == ' ' || c == '\n') {
                    i++;
                    continue;
                }
                if (c >= 'a' && c <= 'z') {
                    while (j < s.length() && s.charAt(j) >= 'a' && s.charAt(j) <= 'z') {
                        j++;
                    }
                } else if (c >= '0' && c <= '9') {
                    while (j < s.length() && s.charAt(j) >= '0' && s.charAt(j) <= '9') {
                        j++;
                    }
                } else {
                    j++;
                }
                tokens.add(new Object[] {s.substring(i, j), i});
                i = j;
            }
        }

        String token() {
            return at < tokens.size() ? (String) tokens.get(at)[0] : "";
        }

        int place() {
            return at < tokens.size() ? (Integer) tokens.get(at)[1] : s.length();
        }

        void eat(String t) {
            if (!token().equals(t)) {
                throw new Fault(place());
            }
            at++;
        }

        int[] law() {
            int[] says = new int[3];
            String[] keys = {"glow", "tone", "load"};
            for (int i = 0; i < 3; i++) {
                eat(keys[i]);
                says[i] = Math.min(999, Math.max(0, ors()));
                eat(";");
            }
            if (at < tokens.size()) {
                throw new Fault(place());
            }
            return says;
        }

        int ors() {
            int v = ands();
            while (token().equals("or")) {
                at++;
                int w = ands();
                v = v != 0 | w != 0 ? 1 : 0;
            }
            return v;
        }

        int ands() {
            int v = not();
            while (token().equals("and")) {
                at++;
                int w = not();
                v = v != 0 & w != 0 ? 1 : 0;
            }
            return v;
        }

        void opens() {
            if (open == 5) {
                throw new Fault(place());
            }
            open++;
            at++;
        }

        int not() {
            if (token().equals("not")) {
                opens();
                int v = not() == 0 ? 1 : 0;
                open--;
                return v;
            }
            int v = sum();
            if (token().equals("<")) {
                at++;
                return v < sum() ? 1 : 0;
            }
            if (token().equals("=")) {
                at++;
                return v == sum() ? 1 : 0;
            }
            return v;
        }

        int sum() {
            int v = term();
            while (token().equals("+") || token().equals("-")) {
                boolean plus = token().equals("+");
                at++;
                int w = term();
                v = plus ? v + w : v - w;
            }
            return v;
        }

        int term() {
            int v = one();
            while (token().equals("*")) {
                at++;
                v *= one();
            }
            return v;
        }

        int one() {
            String t = token();
            if (t.matches("[0-9]{1,4}")) {
                at++;
                return Integer.parseInt(t);
            }
            if (names.containsKey(t)) {
                at++;
                return names.get(t);
            }
            if (t.equals("-")) {
                opens();
                int v = -one();
                open--;
                return v;
            }
            if (t.equals("(")) {
                opens();
                int v = ors();
                eat(")");
                open--;
                return v;
            }
            throw new Fault(place());
        }
    }

    private static final class Model {
        List<int[]> fuses = new ArrayList<>();
        List<Lamp> lamps = new ArrayList<>();
        List<List<Integer>> houses = new ArrayList<>();
        List<Label> labels = new ArrayList<>();
        List<String> texts = new ArrayList<>(List.of("glow power ; tone 90 - far * 7 ; load power + more ;"));
        List<Ask> asks = new ArrayList<>();
        String tape = "";
        int[] set = new int[4];
        int law = 0;
        Object[] image = null;
        Object[] sheets = new Object[4];

        static boolean in(long v, long least, long most) {
            return least <= v && v <= most;
        }

        boolean isHouse(int h) {
            return in(h, 0, houses.size() - 1);
        }

        boolean isLamp(int l) {
            return in(l, 0, lamps.size() - 1);
        }

        boolean isFuse(int f) {
            return in(f, 0, fuses.size() - 1);
        }

        boolean isLabel(int k) {
            return in(k, 0, labels.size() - 1);
        }

        boolean isFuses(int bits) {
            return in(bits, 0, (1 << fuses.size()) - 1);
        }

        boolean isRooms(int bits) {
            return in(bits, 0, 63);
        }

        static boolean bit(int bits, int i) {
            return (bits & 1 << i) != 0;
        }

        boolean on(int l, int on, int hour) {
            Lamp a = lamps.get(l);
            if (a.kind == 4) {
                return true;
            }
            if (a.kind == 2 || a.kind == 5) {
                boolean just = a.x != a.y && (bit(on, a.x) ? 1 : 0) + (bit(on, a.y) ? 1 : 0) == 1;
                return just && (a.kind == 2 || hour >= 6 && hour < 18);
            }
            return bit(on, a.x);
        }

        boolean fed(int h, int l, int out) {
            Lamp a = lamps.get(l);
            if (!bit(out, houses.get(h).get(l))) {
                return true;
            }
            return a.kind == 3 && a.more < fuses.size() && !bit(out, a.more);
        }

        int lit(int h, int out, int on, int hour) {
            int bits = 0;
            for (int l = 0; l < lamps.size(); l++) {
                if (fed(h, l, out) && on(l, on, hour)) {
                    bits += 1 << l;
                }
            }
            return bits;
        }

        int litNow(int h) {
            return lit(h, set[0], set[1], set[2]);
        }

        int there(int rooms) {
            int bits = 0;
            for (int l = 0; l < lamps.size(); l++) {
                if (bit(rooms, lamps.get(l).room)) {
                    bits += 1 << l;
                }
            }
            return bits;
        }

        int row(int l, int lit) {
            int n = 0;
            for (int o = 0; o < lamps.size(); o++) {
                if (lamps.get(o).kind == 1 && lamps.get(o).more == lamps.get(l).more && bit(lit, o)) {
                    n++;
                }
            }
            return lamps.get(l).kind == 1 && n > 0 ? n : 1;
        }

        int says(int part, int power, int row, int room, int more, int far) {
            Map<String, Integer> names = new HashMap<>();
            names.put("power", power);
            names.put("row", row);
            names.put("hour", set[2]);
            names.put("room", room);
            names.put("more", more);
            names.put("far", far);
            return new Reading(texts.get(law), names).law()[part];
        }

        int ofLamp(int part, int l, int lit) {
            Lamp a = lamps.get(l);
            return says(part, a.power, row(l, lit), a.room, a.more, 0);
        }

        int bright(int l, int lit) {
            return bit(lit, l) ? ofLamp(0, l, lit) / row(l, lit) : 0;
        }

        int load(int h, int f, int lit) {
            int all = 0;
            for (int l = 0; l < lamps.size(); l++) {
                if (bit(lit, l) && houses.get(h).get(l) == f) {
                    all += ofLamp(2, l, lit);
                }
            }
            return all;
        }

        int meter(int h) {
            int all = 0;
            for (int f = 0; f < fuses.size(); f++) {
                all += load(h, f, litNow(h));
            }
            return all;
        }

        int amiss(int h, Ask a) {
            return (lit(h, a.out, a.on, a.hour) & there(a.rooms)) ^ a.seen;
        }

        int miss(int h) {
            int n = 0;
            for (Ask a : asks) {
                n += Integer.bitCount(amiss(h, a));
            }
            return n;
        }

        List<Integer> let() {
            List<Integer> let = new ArrayList<>();
            for (int h = 0; h < houses.size(); h++) {
                if (miss(h) == 0) {
                    let.add(h);
                }
            }
            return let;
        }

        static int bits(Iterable<Integer> some) {
            int bits = 0;
            for (int i : some) {
                bits |= 1 << i;
            }
            return bits;
        }

        Map<Integer, List<Integer>> kinds(List<Integer> some, int outs, int rooms) {
            Map<Integer, List<Integer>> kinds = new TreeMap<>();
            for (int h : some) {
                int shown = lit(h, outs, set[1], set[2]) & there(rooms);
                kinds.computeIfAbsent(shown, k -> new ArrayList<>()).add(h);
            }
            return kinds;
        }

        int greatest(List<Integer> some, int outs, int rooms) {
            int n = 0;
            for (List<Integer> kind : kinds(some, outs, rooms).values()) {
                n = Math.max(n, kind.size());
            }
            return n;
        }

        int next(List<Integer> some, int rooms, int most) {
            int best = 0;
            long bestRank = Long.MAX_VALUE;
            for (int set = 0; set < 1 << fuses.size(); set++) {
                if (Integer.bitCount(set) <= most) {
                    long rank = greatest(some, set, rooms) * 10000L + Integer.bitCount(set) * 100L + set;
                    if (rank < bestRank) {
                        bestRank = rank;
                        best = set;
                    }
                }
            }
            return best;
        }

        int[] ahead(List<Integer> some, int rooms) {
            int[] best = {0, 99};
            for (int set = 0; set < 1 << fuses.size(); set++) {
                if (Integer.bitCount(set) > 2) {
                    continue;
                }
                int most = 0;
                for (List<Integer> kind : kinds(some, set, rooms).values()) {
                    most = Math.max(most, greatest(kind, next(kind, rooms, 2), rooms));
                }
                if (most < best[1]) {
                    best = new int[] {set, most};
                }
            }
            return best;
        }

        int plan(int h, int rooms, int most) {
            List<Integer> left = let();
            if (!left.contains(h)) {
                return -1;
            }
            int n = 0;
            while (left.size() > 1) {
                int set = next(left, rooms, most);
                Map<Integer, List<Integer>> kinds = kinds(left, set, rooms);
                if (kinds.size() == 1) {
                    return -1;
                }
                for (List<Integer> kind : kinds.values()) {
                    if (kind.contains(h)) {
                        left = kind;
                    }
                }
                n++;
            }
            return n;
        }

        int live(int l, int outs) {
            List<Integer> in = new ArrayList<>();
            for (int h : let()) {
                if (fed(h, l, outs)) {
                    in.add(h);
                }
            }
            return bits(in);
        }

        int dead(int l) {
            for (int n = 0; n <= 6; n++) {
                for (int set = 0; set < 1 << fuses.size(); set++) {
                    if (Integer.bitCount(set) == n && live(l, set) == 0) {
                        return set;
                    }
                }
            }
            throw new IllegalStateException();
        }

        List<Integer> inRoom(int r) {
            List<Integer> in = new ArrayList<>();
            for (int l = 0; l < lamps.size(); l++) {
                if (lamps.get(l).room == r) {
                    in.add(l);
                }
            }
            return in;
        }

        /** For each SUM the sets that have it, were a LAMP's POWER another. */
        Map<Integer, List<Integer>> sums(int r, int but, int power) {
            Map<Integer, List<Integer>> sums = new HashMap<>();
            for (int set = 0; set < 1 << lamps.size(); set++) {
                if ((set & ~bits(inRoom(r))) == 0) {
                    int sum = 0;
                    for (int l : inRoom(r)) {
                        if (bit(set, l)) {
                            sum += l == but ? power : lamps.get(l).power;
                        }
                    }
                    sums.computeIfAbsent(sum, k -> new ArrayList<>()).add(set);
                }
            }
            return sums;
        }

        int put(int r) {
            if (inRoom(r).size() > 9) {
                return -1;
            }
            for (int l : inRoom(r)) {
                for (int power = 1; power <= 99; power++) {
                    if (sums(r, l, power).size() == 1 << inRoom(r).size()) {
                        return 100 * l + power;
                    }
                }
            }
            return -1;
        }

        int agree(int k, int h) {
            int n = 0;
            for (int l = 0; l < lamps.size(); l++) {
                n += labels.get(k).fuses.get(l).equals(houses.get(h).get(l)) ? 1 : 0;
            }
            return n;
        }

        int agreeOver(int k) {
            int n = 0;
            for (int h : let()) {
                n += agree(k, h);
            }
            return n;
        }

        int fedPower(int h, int f) {
            int power = 0;
            for (int l = 0; l < lamps.size(); l++) {
                power += houses.get(h).get(l) == f ? lamps.get(l).power : 0;
            }
            return power;
        }

        long order(int h, int what) {
            TreeSet<Integer> left = new TreeSet<>();
            for (int f = 0; f < fuses.size(); f++) {
                left.add(f);
            }
            String digits = "0";
            long dark = 0;
            int time = 0;
            while (!left.isEmpty()) {
                int best = left.first();
                for (int f : left) {
                    // as fractions over all TAKES multiplied there is no rounding
                    if (fedPower(h, f) * fuses.get(best)[1] > fedPower(h, best) * fuses.get(f)[1]) {
                        best = f;
                    }
                }
                left.remove(best);
                digits += best + 1;
                time += fuses.get(best)[1];
                dark += (long) time * fedPower(h, best);
            }
            return what == 0 ? Long.parseLong(digits) : dark;
        }

        // ---- the host

        int size(int s) {
            Object o = sheets[s];
            return o instanceof byte[] b ? b.length : o instanceof short[] c ? c.length : ((int[]) o).length;
        }

        int get(int s, int i) {
            Object o = sheets[s];
            return o instanceof byte[] b ? b[i] : o instanceof short[] c ? c[i] : ((int[]) o)[i];
        }

        int sort(int s) {
            return sheets[s] instanceof byte[] ? 0 : sheets[s] instanceof short[] ? 1 : 2;
        }

        List<Integer> row(int s) {
            List<Integer> row = new ArrayList<>();
            for (int i = 0; i < size(s); i++) {
                row.add(get(s, i));
            }
            return row;
        }

        int wiring(int s) {
            if (!in(s, 0, 3)) {
                return -2;
            }
            if (sheets[s] == null) {
                return -11;
            }
            if (size(s) != lamps.size()) {
                return -2;
            }
            for (int f : row(s)) {
                if (!isFuse(f)) {
                    return -2;
                }
            }
            return 0;
        }

        int lamp(int kind, int power, int where, int more) {
            boolean good = in(kind, 0, 5) && in(power, 1, 99) && in(where, 0, 599) && in(more, 0, 9);
            if (!good || where % 100 / 10 > 7 || where % 10 > 7) {
                return -2;
            }
            if (lamps.size() == 10) {
                return -4;
            }
            if (!houses.isEmpty() || !labels.isEmpty() || !asks.isEmpty()) {
                return -3;
            }
            lamps.add(new Lamp(kind, power, where / 100, where % 100 / 10, where % 10, more));
            return lamps.size() - 1;
        }

        long wall(int s, int r, int what) {
            if (!in(s, 0, 3) || !in(r, 0, 5) || !in(what, 0, 1)) {
                return -2;
            }
            if (sheets[s] == null) {
                return -11;
            }
            if (!in(size(s), 1, 30)) {
                return -2;
            }
            for (int v : row(s)) {
                if (!in(v, 0, 999)) {
                    return -2;
                }
            }
            int best = -1;
            int least = 0;
            int[] tones = new int[30];
            for (int far = 0; far < 30; far++) {
                tones[far] = says(1, 0, 0, r, 0, far);
            }
            for (int j = 0; j < size(s); j++) {
                int all = 0;
                for (int i = 0; i < size(s); i++) {
                    all += Math.abs(get(s, i) - tones[i < j ? j - i : i - j]);
                }
                if (best < 0 || all < least) {
                    best = j;
                    least = all;
                }
            }
            return what == 0 ? best : least;
        }

        int lampsBy(int s, int sort, int at, int n) {
            if (!in(s, 0, 3) || !in(sort, 0, 2) || !in(n, 0, 10)) {
                return -2;
            }
            if (sheets[s] == null) {
                return -11;
            }
            if (sort(s) != sort) {
                return -13;
            }
            int came = 0;
            long place = at;
            for (int k = 0; k < n; k++) {
                int[] four = new int[4];
                for (int i = 0; i < 4; i++, place++) {
                    if (!in(place, 0, size(s) - 1)) {
                        return -12;
                    }
                    four[i] = get(s, (int) place);
                }
                if (lamp(four[0], four[1], four[2], four[3]) >= 0) {
                    came++;
                }
            }
            return came;
        }

        int copy(int s, int i, int other, int j, int n) {
            if (!in(s, 0, 3) || !in(other, 0, 3)) {
                return -2;
            }
            if (sheets[s] == null || sheets[other] == null) {
                return -11;
            }
            if (sort(s) != sort(other)) {
                return -13;
            }
            if (n < 0 || i < 0 || j < 0 || (long) i + n > size(s) || (long) j + n > size(other)) {
                return -12;
            }
            System.arraycopy(sheets[s], i, sheets[other], j, n);
            return n;
        }

        int text() {
            if (texts.size() == 6) {
                return -4;
            }
            String read = tape;
            tape = "";
            Map<String, Integer> names = new HashMap<>();
            for (String name : List.of("power", "row", "hour", "room", "more", "far")) {
                names.put(name, 1);
            }
            try {
                new Reading(read, names).law();
            } catch (Fault f) {
                return -100 - f.place;
            }
            texts.add(read);
            return texts.size() - 1;
        }

        int taken(int i, int kind) {
            if (!in(kind, 0, 6)) {
                return -2;
            }
            if (!in(i, 0, 15)) {
                return -12;
            }
            if (i < 6 ? !isFuse(i) : !isLamp(i - 6)) {
                return -11;
            }
            if (i < 6) {
                return kind == 6 ? fuses.get(i)[0] : -13;
            }
            int[][] are = {{0}, {0, 1}, {0, 2}, {0, 3}, {0, 4}, {0, 2, 5}};
            for (int is : are[lamps.get(i - 6).kind]) {
                if (is == kind) {
                    return i - 6;
                }
            }
            return -13;
        }

        int drawn(int seed, int rooms, int what) {
            if (!in(seed, 0, 99999) || !isRooms(rooms) || !in(what, 0, 1)) {
                return -2;
            }
            if (houses.isEmpty()) {
                return -3;
            }
            List<Long> lots = new ArrayList<>(List.of((seed + 1) * 48271L % 2147483647L));
            for (int l = 0; l < lamps.size(); l++) {
                lots.add(lots.get(l) * 48271L % 2147483647L);
            }
            int h = (int) (lots.get(0) % houses.size());
            int seen = 0;
            for (int l = 0; l < lamps.size(); l++) {
                boolean other = lots.get(l + 1) % 100 < set[3];
                if (bit(rooms, lamps.get(l).room) && bit(litNow(h), l) != other) {
                    seen |= 1 << l;
                }
            }
            return what == 0 ? h : seen;
        }

        int broken(int h, int rooms, int seen) {
            if (!isHouse(h)) {
                return -5;
            }
            if (!isRooms(rooms) || (seen & ~there(rooms)) != 0) {
                return -7;
            }
            int found = 0;
            for (int l = 0; l < lamps.size(); l++) {
                int left = bit(litNow(h), l) ? litNow(h) - (1 << l) : litNow(h);
                found |= (left & there(rooms)) == seen ? 1 << l : 0;
            }
            for (int f = 0; f < fuses.size(); f++) {
                int out = bit(set[0], f) ? set[0] : set[0] + (1 << f);
                found |= (lit(h, out, set[1], set[2]) & there(rooms)) == seen ? 1 << 16 + f : 0;
            }
            return found;
        }

        int thick(int h, int f) {
            int most = 0;
            for (int on = 0; on < 256; on++) {
                most = Math.max(most, load(h, f, lit(h, 0, on, set[2])));
            }
            return most;
        }

        int nothing(int h) {
            int idle = 0;
            for (int i = 0; i < 8; i++) {
                idle |= lit(h, set[0], set[1] ^ 1 << i, set[2]) == litNow(h) ? 1 << i : 0;
            }
            return idle;
        }

        long odds(int k, int part) {
            if (!isLabel(k) || !in(part, 0, 1)) {
                return -4611686018427387904L;
            }
            int above = agreeOver(k);
            int below = lamps.size() * let().size();
            if (below == 0) {
                return part;
            }
            int by = below;
            while (above % by != 0 || below % by != 0) {
                by--;
            }
            return part == 0 ? above / by : below / by;
        }

        int count(int what) {
            int[] counts = {set[0], set[1], set[2], set[3], fuses.size(), lamps.size(), houses.size(),
                asks.size(), labels.size(), texts.size(), law, tape.length()};
            return in(what, 0, 11) ? counts[what] : -2;
        }
    }

    // ---- calls by their number, of both

    private static final String[] CALLS = {"fuse", "set", "count", "lamp", "lampTold", "feed", "text", "force", "house",
        "fedBy", "show", "bright", "room", "nothing", "ask", "forget", "amiss", "miss", "lets", "likeliest", "near",
        "parts", "next", "ahead", "plan", "bound", "sure", "grey", "live", "dead", "touch", "sums", "which", "put",
        "label", "agree", "right", "odds", "wall", "broken", "load", "over", "thick", "meter", "witness", "order",
        "drawn", "image", "back", "sheet", "cell", "copy", "lampsBy", "taken"};

    private static long ofProgram(WhichSwitch x, int call, int[] a, long w) {
        switch (CALLS[call]) {
            case "fuse": return x.fuse(a[0], a[1]);
            case "set": return x.set(a[0], a[1]);
            case "count": return x.count(a[0]);
            case "lamp": return x.lamp(a[0], a[1], a[2], a[3]);
            case "lampTold": return x.lampTold(a[0], a[1]);
            case "feed": return x.feed(w, a[0]);
            case "text": return x.text();
            case "force": return x.force(a[0]);
            case "house": return x.house(a[0]);
            case "fedBy": return x.fedBy(a[0], a[1]);
            case "show": return x.show(a[0]);
            case "bright": return x.bright(a[0], a[1]);
            case "room": return x.room(a[0], a[1]);
            case "nothing": return x.nothing(a[0]);
            case "ask": return x.ask(a[0], a[1]);
            case "forget": return x.forget();
            case "amiss": return x.amiss(a[0], a[1]);
            case "miss": return x.miss(a[0]);
            case "lets": return x.lets();
            case "likeliest": return x.likeliest();
            case "near": return x.near(a[0]);
            case "parts": return x.parts(a[0], a[1], a[2]);
            case "next": return x.next(a[0], a[1], a[2]);
            case "ahead": return x.ahead(a[0], a[1]);
            case "plan": return x.plan(a[0], a[1], a[2]);
            case "bound": return x.bound();
            case "sure": return x.sure(a[0]);
            case "grey": return x.grey();
            case "live": return x.live(a[0], a[1]);
            case "dead": return x.dead(a[0]);
            case "touch": return x.touch();
            case "sums": return x.sums(a[0]);
            case "which": return x.which(a[0], a[1]);
            case "put": return x.put(a[0]);
            case "label": return x.label(a[0], a[1]);
            case "agree": return x.agree(a[0], a[1]);
            case "right": return x.right();
            case "odds": return x.odds(a[0], a[1]);
            case "wall": return x.wall(a[0], a[1], a[2]);
            case "broken": return x.broken(a[0], a[1], a[2]);
            case "load": return x.load(a[0], a[1]);
            case "over": return x.over(a[0]);
            case "thick": return x.thick(a[0], a[1]);
            case "meter": return x.meter(a[0]);
            case "witness": return x.witness(a[0], a[1]);
            case "order": return x.order(a[0], a[1]);
            case "drawn": return x.drawn(a[0], a[1], a[2]);
            case "image": return x.image();
            case "back": return x.back();
            case "sheet": return x.sheet(a[0], a[1], a[2]);
            case "cell": return x.cell(a[0], a[1], a[2]);
            case "copy": return x.copy(a[0], a[1], a[2], a[3], a[4]);
            case "lampsBy": return x.lampsBy(a[0], a[1], a[2], a[3]);
            default: return x.taken(a[0], a[1]);
        }
    }

    private static long ofModel(Model m, int call, int[] a, long w) {
        return call < 31 ? ofModelFirst(m, CALLS[call], a, w) : ofModelLast(m, CALLS[call], a);
    }

    private static long ofModelFirst(Model m, String call, int[] a, long w) {
        switch (call) {
            case "fuse":
                if (!Model.in(a[0], 0, 999) || !Model.in(a[1], 1, 99)) {
                    return -2;
                }
                if (m.fuses.size() == 6) {
                    return -4;
                }
                m.fuses.add(new int[] {a[0], a[1]});
                return m.fuses.size() - 1;
            case "set": {
                if (!Model.in(a[0], 0, 3)) {
                    return -1;
                }
                int[] mosts = {(1 << m.fuses.size()) - 1, 255, 23, 99};
                if (!Model.in(a[1], 0, mosts[a[0]])) {
                    return -2;
                }
                int was = m.set[a[0]];
                m.set[a[0]] = a[1];
                return was;
            }
            case "count": return m.count(a[0]);
            case "lamp": return m.lamp(a[0], a[1], a[2], a[3]);
            case "lampTold": {
                if (!m.isLamp(a[0])) {
                    return -5;
                }
                Lamp l = m.lamps.get(a[0]);
                int[] told = {l.kind, l.power, l.room, l.x, l.y, l.more};
                return Model.in(a[1], 0, 5) ? told[a[1]] : -7;
            }
            case "feed": {
                if (!Model.in(a[0], 1, 8)) {
                    return -2;
                }
                if (m.tape.length() + a[0] > 160) {
                    return -4;
                }
                String all = "";
                for (int i = 0; i < 8; i++) {
                    all = (char) (w >> 8 * i & 255) + all;
                }
                m.tape += all.substring(8 - a[0]);
                return m.tape.length();
            }
            case "text": return m.text();
            case "force": {
                if (!Model.in(a[0], 0, m.texts.size() - 1)) {
                    return -2;
                }
                int was = m.law;
                m.law = a[0];
                return was;
            }
            case "house": {
                int refused = m.wiring(a[0]);
                if (refused != 0) {
                    return refused;
                }
                if (m.houses.size() == 12) {
                    return -4;
                }
                m.houses.add(m.row(a[0]));
                return m.houses.size() - 1;
            }
            case "fedBy": return m.isHouse(a[0]) && m.isLamp(a[1]) ? m.houses.get(a[0]).get(a[1]) : -5;
            case "show": return m.isHouse(a[0]) ? m.litNow(a[0]) : -5;
            case "bright": return m.isHouse(a[0]) && m.isLamp(a[1]) ? m.bright(a[1], m.litNow(a[0])) : -5;
            case "room": {
                if (!m.isHouse(a[0])) {
                    return -5;
                }
                if (!Model.in(a[1], 0, 5)) {
                    return -7;
                }
                int all = 0;
                for (int l : m.inRoom(a[1])) {
                    all += m.bright(l, m.litNow(a[0]));
                }
                return all;
            }
            case "nothing": return m.isHouse(a[0]) ? m.nothing(a[0]) : -5;
            case "ask":
                if (!m.isRooms(a[0]) || (a[1] & ~m.there(a[0])) != 0) {
                    return -2;
                }
                if (m.asks.size() == 10) {
                    return -4;
                }
                m.asks.add(new Ask(m.set[0], m.set[1], m.set[2], a[0], a[1]));
                return m.asks.size() - 1;
            case "forget":
                if (m.asks.isEmpty()) {
                    return -3;
                }
                m.asks.remove(m.asks.size() - 1);
                return m.asks.size();
            case "amiss":
                if (!m.isHouse(a[0])) {
                    return -5;
                }
                return Model.in(a[1], 0, m.asks.size() - 1) ? m.amiss(a[0], m.asks.get(a[1])) : -7;
            case "miss": return m.isHouse(a[0]) ? m.miss(a[0]) : -5;
            case "lets": return Model.bits(m.let());
            case "likeliest": {
                int best = -1;
                for (int h = m.houses.size() - 1; h >= 0; h--) {
                    best = best < 0 || m.miss(h) <= m.miss(best) ? h : best;
                }
                return best;
            }
            case "near": {
                int bits = 0;
                for (int h = 0; h < m.houses.size(); h++) {
                    bits |= m.miss(h) <= a[0] ? 1 << h : 0;
                }
                return Model.in(a[0], 0, 999) ? bits : -2;
            }
            case "parts":
                if (!m.isFuses(a[0]) || !m.isRooms(a[1]) || !Model.in(a[2], 0, 1)) {
                    return -2;
                }
                return a[2] == 0 ? m.kinds(m.let(), a[0], a[1]).size() : m.greatest(m.let(), a[0], a[1]);
            case "next": {
                if (!m.isRooms(a[0]) || !Model.in(a[1], 0, 6) || !Model.in(a[2], 0, 1)) {
                    return -2;
                }
                if (m.let().isEmpty()) {
                    return -1;
                }
                int set = m.next(m.let(), a[0], a[1]);
                return a[2] == 0 ? set : m.greatest(m.let(), set, a[0]);
            }
            case "ahead":
                if (!m.isRooms(a[0]) || !Model.in(a[1], 0, 1)) {
                    return -2;
                }
                return m.let().isEmpty() ? -1 : m.ahead(m.let(), a[0])[a[1]];
            case "plan":
                if (!m.isHouse(a[0])) {
                    return -5;
                }
                return !m.isRooms(a[1]) || !Model.in(a[2], 0, 6) ? -7 : m.plan(a[0], a[1], a[2]);
            case "bound": {
                int n = 0;
                while (Math.pow(2, n) < m.let().size()) {
                    n++;
                }
                return n;
            }
            case "sure": {
                if (!m.isLamp(a[0])) {
                    return -5;
                }
                TreeSet<Integer> by = new TreeSet<>();
                for (int h : m.let()) {
                    by.add(m.houses.get(h).get(a[0]));
                }
                return by.isEmpty() ? -3 : by.size() == 1 ? by.first() : -1;
            }
            case "grey": {
                int bits = 0;
                for (int l = 0; l < m.lamps.size(); l++) {
                    TreeSet<Integer> by = new TreeSet<>();
                    for (int h : m.let()) {
                        by.add(m.houses.get(h).get(l));
                    }
                    bits |= by.size() != 1 ? 1 << l : 0;
                }
                return bits;
            }
            case "live":
                if (!m.isLamp(a[0])) {
                    return -5;
                }
                return m.isFuses(a[1]) ? m.live(a[0], a[1]) : -7;
            case "dead": return m.isLamp(a[0]) ? m.dead(a[0]) : -5;
            default: {
                int bits = 0;
                for (int l = 0; l < m.lamps.size(); l++) {
                    bits |= m.live(l, m.set[0]) == 0 ? 1 << l : 0;
                }
                return bits;
            }
        }
    }

    private static long ofModelLast(Model m, String call, int[] a) {
        switch (call) {
            case "sums": return Model.in(a[0], 0, 5) ? m.sums(a[0], -1, 0).size() : -2;
            case "which": {
                if (!Model.in(a[0], 0, 5) || !Model.in(a[1], 0, 9999)) {
                    return -2;
                }
                List<Integer> sets = m.sums(a[0], -1, 0).getOrDefault(a[1], List.of());
                return sets.isEmpty() ? -1 : sets.size() > 1 ? -3 : sets.get(0);
            }
            case "put": return Model.in(a[0], 0, 5) ? m.put(a[0]) : -2;
            case "label": {
                if (!Model.in(a[0], 1, 9999)) {
                    return -2;
                }
                int refused = m.wiring(a[1]);
                if (refused != 0) {
                    return refused;
                }
                if (m.labels.size() == 4) {
                    return -4;
                }
                m.labels.add(new Label(a[0], m.row(a[1])));
                return m.labels.size() - 1;
            }
            case "agree": return m.isLabel(a[0]) && m.isHouse(a[1]) ? m.agree(a[0], a[1]) : -5;
            case "right": {
                long best = -1;
                for (int k = 0; k < m.labels.size(); k++) {
                    best = Math.max(best, m.agreeOver(k) * 10000L + m.labels.get(k).year);
                }
                return best < 0 ? -1 : best % 10000;
            }
            case "odds": return m.odds(a[0], a[1]);
            case "wall": return m.wall(a[0], a[1], a[2]);
            case "broken": return m.broken(a[0], a[1], a[2]);
            case "load": return m.isHouse(a[0]) && m.isFuse(a[1]) ? m.load(a[0], a[1], m.litNow(a[0])) : -5;
            case "over": {
                if (!m.isHouse(a[0])) {
                    return -5;
                }
                int bits = 0;
                for (int f = 0; f < m.fuses.size(); f++) {
                    bits |= m.load(a[0], f, m.litNow(a[0])) > m.fuses.get(f)[0] ? 1 << f : 0;
                }
                return bits;
            }
            case "thick": return m.isHouse(a[0]) && m.isFuse(a[1]) ? m.thick(a[0], a[1]) : -5;
            case "meter": return m.isHouse(a[0]) ? m.meter(a[0]) : -5;
            case "witness": {
                if (!Model.in(a[0], 0, 99999) || !Model.in(a[1], 0, 999)) {
                    return -2;
                }
                int bits = 0;
                for (int h : m.let()) {
                    bits |= Model.in(m.meter(h), a[0] - a[1], a[0] + a[1]) ? 1 << h : 0;
                }
                return bits;
            }
            case "order": return m.isHouse(a[0]) && Model.in(a[1], 0, 1) ? m.order(a[0], a[1]) : -4611686018427387904L;
            case "drawn": return m.drawn(a[0], a[1], a[2]);
            case "image":
                m.image = new Object[] {m.set.clone(), List.copyOf(m.asks), m.law};
                return m.asks.size();
            case "back": {
                if (m.image == null) {
                    return -3;
                }
                m.set = ((int[]) m.image[0]).clone();
                m.asks = new ArrayList<>();
                for (Object ask : (List<?>) m.image[1]) {
                    m.asks.add((Ask) ask);
                }
                m.law = (Integer) m.image[2];
                return m.asks.size();
            }
            case "sheet":
                if (!Model.in(a[0], 0, 3) || !Model.in(a[1], -1, 2) || a[1] >= 0 && a[2] > 40) {
                    return -2;
                }
                if (a[1] >= 0 && a[2] < 0) {
                    return -14;
                }
                m.sheets[a[0]] = a[1] < 0 ? null
                        : a[1] == 0 ? new byte[a[2]] : a[1] == 1 ? new short[a[2]] : new int[a[2]];
                return 1;
            case "cell":
                if (!Model.in(a[0], 0, 3)) {
                    return -2;
                }
                if (m.sheets[a[0]] == null) {
                    return -11;
                }
                if (!Model.in(a[1], 0, m.size(a[0]) - 1)) {
                    return -12;
                }
                if (m.sheets[a[0]] instanceof byte[] b) {
                    b[a[1]] = (byte) a[2];
                } else if (m.sheets[a[0]] instanceof short[] b) {
                    b[a[1]] = (short) a[2];
                } else {
                    ((int[]) m.sheets[a[0]])[a[1]] = a[2];
                }
                return 1;
            case "copy": return m.copy(a[0], a[1], a[2], a[3], a[4]);
            case "lampsBy": return m.lampsBy(a[0], a[1], a[2], a[3]);
            default: return m.taken(a[0], a[1]);
        }
    }

    // ---- runs

    private static final int[] WILD = {Integer.MIN_VALUE, -2147483647, -100000, -2, -1, 0, 1, 5, 6, 7, 8, 9, 10, 11, 12,
        13, 15, 16, 31, 32, 40, 41, 63, 64, 99, 100, 127, 128, 255, 256, 599, 600, 999, 1000, 1023, 1024, 9999, 10000,
        65535, 99999, 100000, 1 << 20, 1 << 30, Integer.MAX_VALUE - 3, Integer.MAX_VALUE};

    private final Random random;
    private final int seed;
    private final WhichSwitch x = new WhichSwitch();
    private final Model m = new Model();
    private final StringBuilder told = new StringBuilder();
    private int wrong = 0;
    private static final TreeMap<String, TreeSet<Long>> ANSWERS = new TreeMap<>();

    private ModelTest(int seed) {
        this.seed = seed;
        this.random = new Random(seed);
    }

    private int below(int n) {
        return random.nextInt(n);
    }

    private long call(String name, long w, int... given) {
        int call = List.of(CALLS).indexOf(name);
        int[] a = new int[5];
        System.arraycopy(given, 0, a, 0, given.length);
        long got;
        String line = name + java.util.Arrays.toString(given) + (name.equals("feed") ? " of " + w : "");
        try {
            got = ofProgram(x, call, a, w);
        } catch (RuntimeException e) {
            System.out.println("seed " + seed + ": " + line + " threw " + e + told);
            wrong++;
            return 0;
        }
        long want = ofModel(m, call, a, w);
        told.append("\n  ").append(line).append(" -> ").append(want);
        if (got != want) {
            System.out.println("seed " + seed + ": " + line + " answered " + got + ", due is " + want + told);
            wrong++;
        }
        ANSWERS.computeIfAbsent(name, k -> new TreeSet<>()).add(Math.min(got, 50));
        return want;
    }

    private int call(String name, int... given) {
        return (int) call(name, 0L, given);
    }

    private void feed(String s) {
        for (int i = 0; i < s.length();) {
            int n = Math.min(1 + below(8), s.length() - i);
            long w = random.nextLong();
            for (int k = 0; k < n; k++) {
                w = w << 8 | s.charAt(i + k);
            }
            call("feed", w, n);
            i += n;
        }
    }

    private String expression(int depth) {
        String[] names = {"power", "row", "hour", "room", "more", "far"};
        String[] between = {" + ", "-", "*", " * ", " < ", "=", " and ", " or ", " - ", "\n+"};
        if (depth == 0 || below(5) == 0) {
            return below(3) == 0 ? "" + below(below(4) == 0 ? 10000 : 60) : names[below(6)];
        }
        switch (below(7)) {
            case 0: return "- " + expression(depth - 1);
            case 1: return "(" + expression(depth - 1) + ")";
            case 2: return "not " + expression(depth - 1);
            default: return expression(depth - 1) + between[below(10)] + expression(depth - 1);
        }
    }

    private String someText() {
        int depth = 1 + below(4);
        String s = "glow " + expression(depth) + ";tone " + expression(below(3)) + " ; load " + expression(below(3)) + ";";
        if (below(3) == 0) {
            String[] odd = {"(", ")", ";", "-", "not ", "12345", "far", "glow", "Z", "\t", "", " ", "<", "load ", "or"};
            int i = below(s.length() + 1);
            s = s.substring(0, i) + odd[below(odd.length)] + s.substring(Math.min(s.length(), i + below(3)));
        }
        if (below(12) == 0) {
            String many = below(2) == 0 ? "(" : "-";
            s = "glow " + many.repeat(1 + below(7)) + "power" + ")".repeat(below(6)) + "*9;tone 1;load 3;";
        }
        return s;
    }

    /** A number near what the call may take, now and then any. */
    private int near(int most) {
        if (below(40) == 0) {
            return WILD[below(WILD.length)];
        }
        return below(25) == 0 ? below(most + 4) - 2 : below(most);
    }

    private int house() {
        return near(Math.max(1, m.houses.size()));
    }

    private int lamp() {
        return near(Math.max(1, m.lamps.size()));
    }

    private int fuse() {
        return near(Math.max(1, m.fuses.size()));
    }

    private int fuses() {
        return near(1 << m.fuses.size());
    }

    private int rooms() {
        return below(2) == 0 ? 63 : near(64);
    }

    private int seen(int rooms) {
        if (below(20) == 0) {
            return near(1024);
        }
        int there = m.there(rooms & 63);
        if (m.houses.isEmpty()) {
            return below(1024) & there;
        }
        int seen = m.litNow(below(m.houses.size())) & there;
        return below(5) == 0 ? seen ^ 1 << below(10) & there : seen;
    }

    private void build() {
        int fuses = below(6) == 0 ? 6 : 1 + below(5);
        for (int f = 0; f < fuses; f++) {
            call("fuse", near(300), 1 + near(9));
        }
        int lamps = below(5) == 0 ? 10 : 1 + below(9);
        int rooms = 1 + below(6);
        for (int l = 0; l < lamps; l++) {
            int kind = below(3) == 0 ? below(6) : below(4);
            int power = below(3) == 0 ? 1 << below(7) : 1 + near(99);
            int switches = below(3) == 0 ? 8 : 3;
            int where = 100 * below(rooms) + 10 * below(switches) + below(switches);
            if (below(30) == 0) {
                call("lamp", near(6), near(100), near(600), near(10));
            }
            call("lamp", kind, power, where, below(4) == 0 ? near(10) : below(4));
        }
        call("set", 1, below(3) == 0 ? 7 : below(256));
        call("set", 2, below(24));
        call("set", 3, near(100));
        int houses = below(4) == 0 ? 12 : below(10);
        boolean alike = below(2) == 0;
        for (int h = 0; h < houses; h++) {
            wired(alike);
            call("house", 0);
        }
        for (int k = below(5); k > 0; k--) {
            wired(alike);
            call("label", 1950 + near(50), 0);
        }
    }

    private void wired(boolean alike) {
        int n = m.lamps.size();
        if (below(40) == 0) {
            n = near(11);
        }
        call("sheet", 0, below(3), n);
        for (int l = 0; l < n && l < 40; l++) {
            call("cell", 0, l, alike && below(3) != 0 ? Math.min(1, m.fuses.size() - 1) : fuse());
        }
    }

    private void step() {
        int rooms = rooms();
        switch (below(27)) {
            case 0: call("set", 0, fuses()); break;
            case 1: call("set", near(4), near(100)); break;
            case 2: call("set", 1, near(256)); call("set", 2, near(24)); break;
            case 3: call("ask", rooms, seen(rooms)); break;
            case 4: call("ask", rooms, seen(rooms)); call("forget"); break;
            case 5: feed(someText()); call("text"); call("force", near(m.texts.size())); break;
            case 6: call("image"); break;
            case 7: call("back"); break;
            case 8: sheets(); break;
            case 9: tones(); break;
            case 10: wired(true); call(below(2) == 0 ? "house" : "label", 0, 0); break;
            case 11: call("fuse", near(1000), near(100)); call("lamp", near(6), near(100), near(600), near(10)); break;
            default: asked(below(28)); break;
        }
    }

    private void asked(int which) {
        int rooms = rooms();
        int what = near(2);
        switch (which) {
            case 0: call("show", house()); call("nothing", house()); break;
            case 1: call("bright", house(), lamp()); call("fedBy", house(), lamp()); break;
            case 2: call("room", house(), near(6)); break;
            case 3: call("amiss", house(), near(Math.max(1, m.asks.size()))); call("miss", house()); break;
            case 4: call("lets"); call("likeliest"); call("near", near(20)); break;
            case 5: call("parts", fuses(), rooms, what); break;
            case 6: call("next", rooms, near(7), what); break;
            case 7: call("ahead", rooms, what); break;
            case 8: call("plan", house(), rooms, near(7)); break;
            case 9: call("bound"); call("grey"); call("touch"); break;
            case 10: call("sure", lamp()); call("live", lamp(), fuses()); break;
            case 11: call("dead", lamp()); break;
            case 12: call("sums", near(6)); call("which", near(6), near(150)); break;
            case 13: call("put", near(6)); break;
            case 14: call("agree", near(4), house()); call("right"); break;
            case 15: call("odds", near(4), 0); call("odds", near(4), what); break;
            case 16: call("broken", house(), rooms, seen(rooms)); break;
            case 17: call("load", house(), fuse()); call("over", house()); break;
            case 18: call("thick", house(), fuse()); break;
            case 19: call("meter", house()); call("witness", near(500), near(300)); break;
            case 20: call("order", house(), what); call("order", house(), 1); break;
            case 21: call("drawn", near(100000), rooms, what); call("drawn", near(100000), rooms, 1); break;
            case 22: call("count", near(12)); call("lampTold", lamp(), near(6)); break;
            case 23: call("taken", near(16), near(7)); break;
            case 24: call("force", near(m.texts.size())); break;
            case 25: call("forget"); break;
            case 26: call("text"); break;
            default: call("feed", random.nextLong(), near(9)); break;
        }
    }

    private void sheets() {
        int s = near(4);
        call("sheet", s, near(4) - 1, near(41));
        for (int k = 0; k < 6; k++) {
            call("cell", s, near(41), below(3) == 0 ? random.nextInt() : near(600));
        }
        call("copy", near(4), near(20), near(4), near(20), near(12));
        call("copy", s, near(20), s, near(20), near(12));
        call("lampsBy", s, near(3), near(40), near(11));
    }

    private void tones() {
        int n = 1 + near(30);
        call("sheet", 1, below(3), n);
        int joint = below(12);
        for (int i = 0; i < n && i < 40; i++) {
            call("cell", 1, i, Math.max(0, 90 - 7 * Math.abs(joint - i) + below(20) - 10));
        }
        call("wall", 1, near(6), near(2));
        call("wall", 1, near(6), 1);
    }

    private void wild() {
        int call = below(CALLS.length);
        int[] a = new int[5];
        for (int i = 0; i < 5; i++) {
            a[i] = below(3) == 0 ? WILD[below(WILD.length)] : below(4);
        }
        call(CALLS[call], random.nextLong(), a);
    }

    private boolean runs(int steps) {
        if (below(10) != 0) {
            build();
        }
        for (int i = 0; i < steps && wrong == 0; i++) {
            if (below(8) == 0) {
                wild();
            } else {
                step();
            }
        }
        return wrong == 0;
    }

    public static void main(String[] args) {
        int seeds = args.length > 0 ? Integer.parseInt(args[0]) : 1500;
        int wrong = 0;
        for (int seed = 0; seed < seeds && wrong < 5; seed++) {
            if (!new ModelTest(seed).runs(120)) {
                wrong++;
            }
        }
        if (args.length > 1) {
            ANSWERS.forEach((name, answers) -> System.out.println(name + " " + answers));
        }
        System.out.println(seeds + " drawn runs, " + wrong + " wrong");
        if (wrong != 0) {
            System.exit(1);
        }
    }
}
