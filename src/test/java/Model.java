import java.util.ArrayList;
import java.util.Arrays;
import java.util.Comparator;
import java.util.List;

/**
 * The document once more, told as plainly as can be and without a thought for room or speed: everything is
 * tried out week by week. It is written apart from the program, to find where the two differ.
 */
public final class Model {
    private record Place(String letter, int door, int step, int age, int k) {
        int kind() {
            return "sfynop".indexOf(letter);
        }

        Place like(int kind, int newK, int newStep) {
            return new Place("sfynop".substring(kind, kind + 1), door, newStep, age, newK);
        }

        int going(int w) {
            boolean last = k > 0 && w % k == k - 1;
            return switch (letter) {
                case "f" -> 0;
                case "n" -> last ? 0 : step;
                case "p" -> last ? -step : step;
                case "o" -> (w / k) % 2 == 0 ? step : -step;
                default -> step;
            };
        }
    }

    private record Moment(int week, List<Integer> shut, List<Integer> doors) {
    }

    private record Note(int week, int shop, int door) {
    }

    private static final class Refused extends RuntimeException {
        private static final long serialVersionUID = 1L;
        final int answer;

        Refused(int answer) {
            this.answer = answer;
        }
    }

    private interface Body {
        int answer();
    }

    private final int[][] rows = new int[6][];
    private final byte[][] texts = new byte[4][];
    private final Moment[] kept = new Moment[3];
    private int n = 0;
    private List<Place> shops = new ArrayList<>();
    private List<Note> notes = new ArrayList<>();
    private Moment now = new Moment(0, List.of(), List.of());
    private int asked = 0;
    private long upper = 0;
    private long lower = 1;
    private int finding = 0;
    private final int[] found = new int[6];

    private static int answer(Body body) {
        try {
            return body.answer();
        } catch (Refused refused) {
            return refused.answer;
        }
    }

    private static void bad(boolean is) {
        refuse(is, -1);
    }

    private static void refuse(boolean is, int answer) {
        if (is) {
            throw new Refused(answer);
        }
    }

    private void find(boolean is, int f) {
        if (is) {
            finding = f;
            found[f]++;
            throw new Refused(-3);
        }
    }

    private static boolean out(int v, int least, int most) {
        return v < least || v > most;
    }

    private int mod(long v) {
        return (int) (((v % n) + n) % n);
    }

    public int row(int r, int size) {
        return answer(() -> {
            bad(out(r, 0, 5) || size > 40);
            find(size < 0, 5);
            rows[r] = new int[size];
            return size;
        });
    }

    private int[] rowAt(int r, int i) {
        bad(out(r, 0, 5));
        find(rows[r] == null, 1);
        find(out(i, 0, rows[r].length - 1), 2);
        return rows[r];
    }

    public int lay(int r, int i, int v) {
        return answer(() -> {
            int[] row = rowAt(r, i);
            asked = row[i];
            row[i] = v;
            return 1;
        });
    }

    public int at(int r, int i) {
        return answer(() -> {
            asked = rowAt(r, i)[i];
            return 1;
        });
    }

    public int tear(int r) {
        return answer(() -> {
            bad(out(r, 0, 5));
            find(rows[r] == null, 1);
            rows[r] = null;
            return 1;
        });
    }

    public int copy(int r, int i, int to, int j, int many) {
        return answer(() -> {
            bad(out(r, 0, 5) || out(to, 0, 5));
            find(many < 0, 5);
            find(rows[r] == null || rows[to] == null, 1);
            find(i < 0 || (long) i + many > rows[r].length, 2);
            find(j < 0 || (long) j + many > rows[to].length, 2);
            int[] taken = Arrays.copyOfRange(rows[r], i, i + many);
            for (int p = 0; p < many; p++) {
                rows[to][j + p] = taken[p];
            }
            return 1;
        });
    }

    public int mean(int r) {
        return answer(() -> {
            bad(out(r, 0, 5));
            find(rows[r] == null, 1);
            find(rows[r].length == 0, 4);
            asked = (int) (Arrays.stream(rows[r]).asLongStream().sum() / rows[r].length);
            return 1;
        });
    }

    public int text(int t, int size) {
        return answer(() -> {
            bad(out(t, 0, 3) || size > 100);
            find(size < 0, 5);
            texts[t] = new byte[size];
            Arrays.fill(texts[t], (byte) 32);
            return size;
        });
    }

    public int put(int t, int i, int v) {
        return answer(() -> {
            bad(out(t, 0, 3));
            find(texts[t] == null, 1);
            find(out(i, 0, texts[t].length - 1), 2);
            int was = texts[t][i];
            texts[t][i] = (byte) v;
            return was + 1000;
        });
    }

    /** Reads a TEXT by a form for each item: L a letter, N figures (one or two), F one figure, else a sign. */
    private static int read(byte[] bytes, List<Place> into, int[] doorsOut) {
        StringBuilder text = new StringBuilder();
        for (byte b : bytes) {
            text.append((char) (b & 255));
        }
        int p = afterBlanks(text, 0);
        if (p == text.length() || text.charAt(p) != 'd') {
            return p;
        }
        for (int q = p + 1; q <= p + 2; q++) {
            if (q >= text.length() || !Character.isDigit(text.charAt(q))) {
                return Math.min(q, text.length());
            }
        }
        int doors = Integer.parseInt(text.substring(p + 1, p + 3));
        p += 3;
        if (doors < 10 || doors > 30) {
            return p;
        }
        doorsOut[0] = doors;
        p = afterBlanks(text, p);
        while (p < text.length()) {
            char letter = text.charAt(p);
            if ("sfynop".indexOf(letter) < 0 || into.size() == 7) {
                return p;
            }
            List<String> parts = new ArrayList<>();
            p++;
            for (char form : ("nop".indexOf(letter) >= 0 ? "N:gF:N:F" : "N:gF:N").toCharArray()) {
                int from = p;
                String fine = form == 'N' || form == 'F' ? "0123456789" : form == 'g' ? "+-" : ":";
                int most = form == 'N' ? 2 : 1;
                while (p < text.length() && p - from < most && fine.indexOf(text.charAt(p)) >= 0) {
                    p++;
                }
                if (p == from) {
                    return p;
                }
                parts.add(text.substring(from, p));
                if (!isFine(parts, into, doors)) {
                    return p;
                }
            }
            int step = Integer.parseInt(parts.get(2) + parts.get(3));
            into.add(new Place("" + letter, Integer.parseInt(parts.get(0)), step, Integer.parseInt(parts.get(5)),
                    parts.size() > 6 ? Integer.parseInt(parts.get(7)) : 0));
            p = afterBlanks(text, p);
        }
        return -9;
    }

    private static int afterBlanks(StringBuilder text, int p) {
        return p < text.length() && text.charAt(p) == ' ' ? afterBlanks(text, p + 1) : p;
    }

    private static boolean isFine(List<String> parts, List<Place> ahead, int doors) {
        String last = parts.get(parts.size() - 1);
        return switch (parts.size()) {
            case 1 -> Integer.parseInt(last) < doors
                    && ahead.stream().noneMatch(s -> s.door == Integer.parseInt(last));
            case 6 -> Integer.parseInt(last) >= 1;
            case 8 -> Integer.parseInt(last) >= 2;
            default -> true;
        };
    }

    public int fault(int t) {
        return answer(() -> {
            bad(out(t, 0, 3));
            find(texts[t] == null, 1);
            return read(texts[t], new ArrayList<>(), new int[1]);
        });
    }

    public int square(int t) {
        return answer(() -> {
            bad(out(t, 0, 3));
            find(texts[t] == null, 1);
            List<Place> told = new ArrayList<>();
            int[] doors = new int[1];
            refuse(read(texts[t], told, doors) != -9, -4);
            n = doors[0];
            shops = told;
            notes = new ArrayList<>();
            Arrays.fill(kept, null);
            now = new Moment(0, List.of(), told.stream().map(Place::door).toList());
            return told.size();
        });
    }

    private int trait(int s, int what) {
        Place shop = shops.get(s);
        return new int[] {shop.kind(), now.doors.get(s), shop.step, shop.age, shop.k, shop.door}[what];
    }

    public int about(int s, int what) {
        return answer(() -> {
            bad(noShop(s) || out(what, 0, 5));
            asked = trait(s, what);
            return 1;
        });
    }

    private boolean noShop(int s) {
        return out(s, 0, shops.size() - 1);
    }

    private boolean noDoor(int d) {
        return out(d, 0, n - 1);
    }

    private boolean isBeside(int d, int e) {
        return mod(d + 1) == e || mod(e + 1) == d;
    }

    private int want(Moment m, int s) {
        return mod(m.doors.get(s) + shops.get(s).going(m.week));
    }

    public int mark(int s, int kind) {
        return answer(() -> {
            bad(noShop(s) || out(kind, 1, 5));
            Place shop = shops.get(s);
            find(shop.kind() != kind && !(kind == 3 && shop.kind() == 5), 3);
            int many = 0;
            switch (kind) {
                case 1:
                    for (int d : now.doors) {
                        many += isBeside(d, now.doors.get(s)) ? 1 : 0;
                    }
                    return many;
                case 2:
                    for (int q = 0; q < shops.size(); q++) {
                        many += q != s && want(now, q) == want(now, s) ? 1 : 0;
                    }
                    return many;
                case 3:
                    while ((now.week + many) % shop.k != shop.k - 1) {
                        many++;
                    }
                    return many;
                case 4:
                    while ((now.week + many) / shop.k == now.week / shop.k) {
                        many++;
                    }
                    return many;
                default:
                    for (int w = 0; w < shop.k; w++) {
                        many += shop.going(now.week + w);
                    }
                    return many + 1000;
            }
        });
    }

    private static Moment withShut(Moment m, int d) {
        List<Integer> more = new ArrayList<>(m.shut);
        more.add(d);
        return new Moment(m.week, more, m.doors);
    }

    public int shut(int d) {
        return answer(() -> {
            bad(noDoor(d));
            refuse(now.shut.contains(d), -4);
            refuse(now.shut.size() == 3, -2);
            now = withShut(now, d);
            return now.shut.size();
        });
    }

    public int open(int d) {
        return answer(() -> {
            bad(noDoor(d));
            refuse(!now.shut.contains(d), -4);
            now = new Moment(now.week, now.shut.stream().filter(e -> e != d).toList(), now.doors);
            return now.shut.size();
        });
    }

    private Moment next(Moment m) {
        List<Integer> turn = new ArrayList<>();
        for (int s = 0; s < shops.size(); s++) {
            turn.add(s);
        }
        turn.sort(Comparator.comparing((Integer s) -> shops.get(s).letter.equals("y"))
                .thenComparing(s -> -shops.get(s).age).thenComparing(s -> s));
        List<Integer> taken = new ArrayList<>(m.shut);
        List<Integer> doors = new ArrayList<>(m.doors);
        for (int s : turn) {
            int d = want(m, s);
            while (taken.contains(d)) {
                d = mod(shops.get(s).going(m.week) < 0 ? d - 1 : d + 1);
            }
            taken.add(d);
            doors.set(s, d);
        }
        return new Moment(m.week + 1, m.shut, doors);
    }

    private Moment after(Moment m, int weeks) {
        Moment then = m;
        for (int w = 0; w < weeks; w++) {
            then = next(then);
        }
        return then;
    }

    public int go(int weeks) {
        return answer(() -> {
            bad(out(weeks, 0, 400));
            refuse(n == 0, -4);
            refuse(now.week + weeks > 100000, -6);
            now = after(now, weeks);
            return now.week;
        });
    }

    public int doors(int r) {
        return answer(() -> {
            bad(out(r, 0, 5));
            rows[r] = now.doors.stream().mapToInt(d -> d).toArray();
            return shops.size();
        });
    }

    public int who(int d) {
        return answer(() -> {
            bad(noDoor(d));
            return now.doors.contains(d) ? now.doors.indexOf(d) : -9;
        });
    }

    public int wants(int s) {
        return answer(() -> {
            bad(noShop(s));
            asked = next(now).doors.get(s);
            return want(now, s);
        });
    }

    public int where(int s, int weeks) {
        return answer(() -> {
            bad(noShop(s) || out(weeks, 0, 400));
            return after(now, weeks).doors.get(s);
        });
    }

    private int plain(Place shop, int door, int from, int weeks) {
        // 2520 is divided by every k: after twice as many weeks all goings, n times that all doors come again.
        long cycle = 2L * 2520 * n;
        int left = (int) (weeks % cycle);
        long d = door;
        for (int w = 0; w < left; w++) {
            d += shop.going(from + w);
        }
        return mod(d);
    }

    public int plainly(int s, int weeks) {
        return answer(() -> {
            bad(noShop(s) || out(weeks, 0, 1000000000));
            return plain(shops.get(s), now.doors.get(s), now.week, weeks);
        });
    }

    public int again() {
        return answer(() -> {
            refuse(n == 0, -4);
            Moment m = now;
            for (int w = 1; w <= 600; w++) {
                m = next(m);
                if (m.doors.equals(now.doors)) {
                    return w;
                }
            }
            return -9;
        });
    }

    public int keep(int k) {
        return answer(() -> {
            bad(out(k, 0, 2));
            refuse(n == 0, -4);
            kept[k] = now;
            return now.week;
        });
    }

    public int on(int k) {
        return answer(() -> {
            bad(out(k, 0, 2));
            find(kept[k] == null, 1);
            now = kept[k];
            return now.week;
        });
    }

    public int beside(int s, int q) {
        return answer(() -> {
            bad(noShop(s) || noShop(q) || s == q);
            Moment m = now;
            for (int w = 0; w <= 600; w++, m = next(m)) {
                if (isBeside(m.doors.get(s), m.doors.get(q))) {
                    return w;
                }
            }
            return -9;
        });
    }

    public int comes(int s, int d) {
        return answer(() -> {
            bad(noShop(s) || noDoor(d));
            Moment m = now;
            for (int w = 0; w <= 600; w++, m = next(m)) {
                if (m.doors.get(s) == d) {
                    return w;
                }
            }
            return -9;
        });
    }

    private List<Integer> meetings(int s, int q, int x) {
        List<Integer> weeks = new ArrayList<>();
        for (int w = 0; w < 3 * n; w++) {
            int one = now.doors.get(s) + w * shops.get(s).step;
            int other = now.doors.get(q) + w * shops.get(q).step;
            if (mod(one + x) == mod(other)) {
                weeks.add(w);
            }
        }
        return weeks;
    }

    public int meets(int s, int q, int x) {
        return answer(() -> {
            bad(noShop(s) || noShop(q) || s == q || noDoor(x));
            List<Integer> weeks = meetings(s, q, x);
            if (weeks.isEmpty()) {
                return -9;
            }
            asked = weeks.get(1) - weeks.get(0);
            return weeks.get(0);
        });
    }

    public int never(int s, int q, int x) {
        return answer(() -> {
            bad(noShop(s) || noShop(q) || s == q || noDoor(x));
            for (int g = 1; g <= n; g++) {
                if (n % g == 0 && (shops.get(s).step - shops.get(q).step) % g == 0) {
                    asked = g;
                }
            }
            return meetings(s, q, x).isEmpty() ? 1 : 0;
        });
    }

    private int walking(int d, int e) {
        return Math.min(mod(d - e), mod(e - d));
    }

    public int walk(int d, int e) {
        return answer(() -> {
            bad(noDoor(d) || noDoor(e));
            return walking(d, e);
        });
    }

    /** Every way to go to some upwards and to the others downwards is tried. */
    private int roundBy(Moment m, int home, int set) {
        int least = n;
        for (int ups = 0; ups <= set; ups++) {
            if ((ups & ~set) == 0) {
                int up = 0;
                int down = 0;
                for (int s = 0; s < shops.size(); s++) {
                    if ((set >> s) % 2 == 1) {
                        int far = m.doors.get(s);
                        if ((ups >> s) % 2 == 1) {
                            up = Math.max(up, mod(far - home));
                        } else {
                            down = Math.max(down, mod(home - far));
                        }
                    }
                }
                least = Math.min(least, 2 * (up + down));
            }
        }
        return least;
    }

    private boolean noSet(int set) {
        return out(set, 0, (1 << shops.size()) - 1);
    }

    public int round(int d, int set) {
        return answer(() -> {
            bad(noDoor(d) || noSet(set));
            return roundBy(now, d, set);
        });
    }

    public int best(int d, int set, int weeks) {
        return answer(() -> {
            bad(noDoor(d) || noSet(set) || out(weeks, 0, 60));
            int week = 0;
            Moment m = now;
            asked = roundBy(m, d, set);
            for (int w = 1; w <= weeks; w++) {
                m = next(m);
                if (roundBy(m, d, set) < asked) {
                    asked = roundBy(m, d, set);
                    week = w;
                }
            }
            return week;
        });
    }

    private record Trip(int walking, List<Integer> weeks) implements Comparable<Trip> {
        Trip with(int more, int set, int week) {
            List<Integer> both = new ArrayList<>(weeks);
            for (int s = 0; s < both.size(); s++) {
                if ((set >> s) % 2 == 1) {
                    both.set(s, week);
                }
            }
            return new Trip(walking + more, both);
        }

        @Override
        public int compareTo(Trip other) {
            if (walking != other.walking) {
                return Integer.compare(walking, other.walking);
            }
            return Arrays.compare(weeks.stream().mapToInt(w -> w).toArray(),
                    other.weeks.stream().mapToInt(w -> w).toArray());
        }
    }

    /** From the last week back: for what is left by then, which part of it is gone to in each week. */
    public int errands(int d, int set, int weeks, int r) {
        return answer(() -> {
            bad(noDoor(d) || noSet(set) || out(weeks, 0, 30) || out(r, 0, 5));
            Trip[] later = new Trip[set + 1];
            later[0] = new Trip(0, new ArrayList<>(java.util.Collections.nCopies(shops.size(), 0)));
            for (int w = weeks; w >= 0; w--) {
                Moment m = after(now, w);
                Trip[] best = new Trip[set + 1];
                for (int part = 0; part <= set; part++) {
                    if ((part & ~set) == 0) {
                        int cost = roundBy(m, d, part);
                        for (int rest = 0; rest <= set; rest++) {
                            if ((rest & ~set) == 0 && (rest & part) == 0 && later[rest] != null) {
                                Trip trip = later[rest].with(cost, part, w);
                                int all = rest | part;
                                best[all] = best[all] == null || trip.compareTo(best[all]) < 0 ? trip : best[all];
                            }
                        }
                    }
                }
                later = best;
            }
            List<Integer> told = new ArrayList<>();
            for (int s = 0; s < shops.size(); s++) {
                if ((set >> s) % 2 == 1) {
                    told.add(later[set].weeks.get(s));
                }
            }
            rows[r] = told.stream().mapToInt(w -> w).toArray();
            return later[set].walking;
        });
    }

    public int agree(int d, int e, int weeks) {
        return answer(() -> {
            bad(noDoor(d) || noDoor(e) || out(weeks, 0, 60));
            find(shops.isEmpty(), 4);
            int least = Integer.MAX_VALUE;
            int choice = 0;
            Moment m = now;
            for (int w = 0; w <= weeks; w++, m = next(m)) {
                for (int s = 0; s < shops.size(); s++) {
                    int both = walking(d, m.doors.get(s)) + walking(m.doors.get(s), e);
                    if (both < least) {
                        least = both;
                        choice = 10 * w + s;
                    }
                }
            }
            asked = least;
            return choice;
        });
    }

    private int met(int d, int step) {
        int set = 0;
        for (int s = 0; s < shops.size(); s++) {
            for (int w = 0; w < n; w++) {
                if (mod(d + w * step) == mod(now.doors.get(s) + w * shops.get(s).step)) {
                    set |= 1 << s;
                }
            }
        }
        return set;
    }

    public int joins(int d, int step) {
        return answer(() -> {
            bad(noDoor(d) || out(step, -9, 9));
            return met(d, step);
        });
    }

    public int quiet() {
        return answer(() -> {
            refuse(n == 0, -4);
            List<Integer> pairs = new ArrayList<>();
            for (int pair = 0; pair < 19 * n; pair++) {
                if (met(pair / 19, pair % 19 - 9) == 0) {
                    pairs.add(pair / 19 * 100 + pair % 19);
                }
            }
            if (pairs.isEmpty()) {
                return -9;
            }
            asked = pairs.size();
            return pairs.get(0);
        });
    }

    public int busy() {
        return answer(() -> {
            refuse(n == 0, -4);
            int choice = 0;
            int most = -1;
            for (int pair = 0; pair < 19 * n; pair++) {
                int many = Integer.bitCount(met(pair / 19, pair % 19 - 9));
                if (many > most) {
                    most = many;
                    choice = pair / 19 * 100 + pair % 19;
                }
            }
            asked = most;
            return choice;
        });
    }

    public int note(int week, int s, int d) {
        return answer(() -> {
            bad(out(week, 0, 99) || noShop(s) || noDoor(d));
            refuse(notes.size() == 12, -2);
            notes.add(new Note(week, s, d));
            return notes.size() - 1;
        });
    }

    public int back(int from) {
        return answer(() -> {
            bad(out(from, 0, notes.size()));
            int went = notes.size() - from;
            notes = new ArrayList<>(notes.subList(0, from));
            return went;
        });
    }

    private boolean fits(int s, Place shop) {
        return notes.stream().filter(note -> note.shop == s)
                .allMatch(note -> plain(shop, shop.door, 0, note.week) == note.door);
    }

    public int steps(int s) {
        return answer(() -> {
            bad(noShop(s));
            Place shop = shops.get(s);
            int set = 0;
            asked = 0;
            for (int step = -9; step <= 9; step++) {
                if (fits(s, shop.like(shop.kind(), shop.k, step))) {
                    set += 1 << (step + 9);
                    asked++;
                }
            }
            return set;
        });
    }

    public int kinds(int s) {
        return answer(() -> {
            bad(noShop(s));
            Place shop = shops.get(s);
            List<Integer> all = new ArrayList<>();
            for (int kind : new int[] {0, 3, 4, 5}) {
                for (int k = kind == 0 ? 0 : 2; k <= (kind == 0 ? 0 : 9); k++) {
                    if (fits(s, shop.like(kind, k, shop.step))) {
                        all.add(10 * kind + k);
                    }
                }
            }
            if (all.isEmpty()) {
                return -9;
            }
            asked = all.size();
            return all.get(0);
        });
    }

    private void checkPassers(int r) {
        find(rows[r] == null, 1);
        find(rows[r].length != n, 5);
        find(Arrays.stream(rows[r]).anyMatch(v -> out(v, 0, 99)), 3);
    }

    private int rentOf(int r, int s, int weeks) {
        int sum = 0;
        for (int w = 0; w < weeks; w++) {
            sum += rows[r][after(now, w).doors.get(s)];
        }
        return sum;
    }

    public int rent(int r, int s, int weeks) {
        return answer(() -> {
            bad(out(r, 0, 5) || noShop(s) || out(weeks, 1, 60));
            checkPassers(r);
            return rentOf(r, s, weeks);
        });
    }

    public int dearest(int r, int weeks) {
        return answer(() -> {
            bad(out(r, 0, 5) || out(weeks, 1, 60));
            checkPassers(r);
            List<Integer> rents = new ArrayList<>();
            for (int s = 0; s < shops.size(); s++) {
                rents.add(rentOf(r, s, weeks));
            }
            int all = rents.stream().mapToInt(v -> v).sum();
            find(all == 0, 4);
            int most = rents.stream().max(Comparator.naturalOrder()).get();
            int by = 1;
            for (int g = 2; g <= most; g++) {
                by = most % g == 0 && all % g == 0 ? g : by;
            }
            upper = most / by;
            lower = all / by;
            return rents.indexOf(most);
        });
    }

    private static int unlike(Moment one, Moment other) {
        int many = 0;
        for (int s = 0; s < one.doors.size(); s++) {
            many += one.doors.get(s).equals(other.doors.get(s)) ? 0 : 1;
        }
        return many;
    }

    public int mends(int d, int weeks) {
        return answer(() -> {
            bad(noDoor(d) || out(weeks, 1, 60));
            refuse(now.shut.contains(d), -4);
            refuse(now.shut.size() == 3, -2);
            asked = -9;
            for (int w = weeks; w >= 1; w--) {
                asked = unlike(after(now, w), after(withShut(now, d), w)) > 0 ? w : asked;
            }
            return unlike(after(now, weeks), after(withShut(now, d), weeks));
        });
    }

    public int worst(int weeks) {
        return answer(() -> {
            bad(out(weeks, 1, 60));
            refuse(n == 0, -4);
            refuse(now.shut.size() == 3, -2);
            int door = -1;
            int most = -1;
            for (int d = 0; d < n; d++) {
                int many = now.shut.contains(d) ? -1 : unlike(after(now, weeks), after(withShut(now, d), weeks));
                door = many > most ? d : door;
                most = Math.max(many, most);
            }
            asked = most;
            return door;
        });
    }

    private int shutBits() {
        return now.shut.stream().mapToInt(d -> 1 << d).sum();
    }

    public int image(int r) {
        return answer(() -> {
            bad(out(r, 0, 5));
            refuse(n == 0, -4);
            List<Integer> all = new ArrayList<>(List.of(now.week, shutBits()));
            all.addAll(now.doors);
            rows[r] = all.stream().mapToInt(v -> v).toArray();
            return all.size();
        });
    }

    public int gone(int r) {
        return answer(() -> {
            bad(out(r, 0, 5));
            refuse(n == 0, -4);
            find(rows[r] == null, 1);
            int[] row = rows[r];
            find(row.length != shops.size() + 2, 5);
            find(out(row[0], 0, 100000) || out(row[1], 0, (int) ((1L << n) - 1)), 3);
            List<Integer> shut = new ArrayList<>();
            for (int d = 0; d < n; d++) {
                if ((row[1] >> d) % 2 == 1) {
                    shut.add(d);
                }
            }
            find(shut.size() > 3, 3);
            List<Integer> doors = new ArrayList<>();
            for (int s = 0; s < shops.size(); s++) {
                find(noDoor(row[s + 2]) || doors.contains(row[s + 2]), 3);
                doors.add(row[s + 2]);
            }
            now = new Moment(row[0], shut, doors);
            return now.week;
        });
    }

    public int asked() {
        return asked;
    }

    public long upper() {
        return upper;
    }

    public long lower() {
        return lower;
    }

    public int count(int what) {
        return switch (what) {
            case 0 -> n;
            case 1 -> shops.size();
            case 2 -> now.week;
            case 3 -> (int) shops.stream().filter(s -> s.letter.equals("n") || s.letter.equals("p")).count();
            case 4 -> now.shut.size();
            case 5 -> notes.size();
            case 6 -> (int) Arrays.stream(rows).filter(row -> row != null).count();
            case 7 -> (int) Arrays.stream(texts).filter(text -> text != null).count();
            default -> -1;
        };
    }

    public int finding() {
        return finding;
    }

    public int findings(int f) {
        return out(f, 1, 5) ? -1 : found[f];
    }

    public long digest() {
        List<Integer> all = new ArrayList<>();
        for (int what = 0; what < 8; what++) {
            all.add(count(what));
        }
        for (int s = 0; s < shops.size(); s++) {
            for (int what = 0; what < 6; what++) {
                all.add(trait(s, what));
            }
        }
        all.add(shutBits());
        notes.forEach(note -> all.addAll(List.of(note.week, note.shop, note.door)));
        for (Moment m : kept) {
            all.add(m == null ? -1 : m.week);
        }
        for (int[] row : rows) {
            all.add(row == null ? -1 : row.length);
            for (int i = 0; row != null && i < row.length; i++) {
                all.add(row[i]);
            }
        }
        for (byte[] text : texts) {
            all.add(text == null ? -1 : text.length);
            for (int i = 0; text != null && i < text.length; i++) {
                all.add((int) text[i]);
            }
        }
        long h = 17;
        for (int v : all) {
            h = 31 * h + v;
        }
        return h;
    }
}
