import java.util.ArrayList;
import java.util.Arrays;
import java.util.List;
import java.util.PriorityQueue;

/**
 * The document's answers once more, found by search and trial instead of by the class's short ways,
 * to be held against it.
 */
final class Model {
    static final class MSea implements Cloneable {
        int w = 6, h = 6, side, strength, nets = 4, deaf;
        int[][] law = {{3, 1, 4, 6}, {3, 1, 4, 6}, {3, 1, 4, 6}};
        List<int[]> shoals = new ArrayList<>();
        List<int[]> boats = new ArrayList<>();
    }

    static final class MDispute {
        List<int[]> said = new ArrayList<>();
        List<int[]> ahead = new ArrayList<>();
    }

    List<MSea> seas = new ArrayList<>();
    List<List<int[]>> days = new ArrayList<>();
    List<MDispute> disputes = new ArrayList<>();
    StringBuilder tape = new StringBuilder();
    int fault;
    int place = -1;
    Model[] images = new Model[3];

    Model copy() {
        Model m = new Model();
        m.seas.addAll(seas);
        m.days.addAll(days);
        m.disputes.addAll(disputes);
        m.tape.append(tape);
        m.fault = fault;
        m.place = place;
        return m;
    }

    boolean image(int k) {
        if (k < 0 || k > 2) {
            return false;
        }
        images[k] = copy();
        return true;
    }

    boolean again(int k) {
        if (k < 0 || k > 2 || images[k] == null) {
            return false;
        }
        Model m = images[k].copy();
        seas = m.seas;
        days = m.days;
        disputes = m.disputes;
        tape = m.tape;
        fault = m.fault;
        place = m.place;
        return true;
    }

    int feed(int... numbers) {
        if (tape.length() + 20 > 600) {
            return -1;
        }
        for (int n : numbers) {
            for (int shift = 24; shift >= 0; shift -= 8) {
                tape.append((char) (n >>> shift & 255));
            }
        }
        return tape.length();
    }

    int end(int n) {
        if (n < 0 || n > tape.length()) {
            return -1;
        }
        tape.setLength(n);
        return n;
    }

    // ---- texts

    private static final String[][] GRAMMAR = {
        {"size 2-8 2-8", "wind 0-3 0-3", "nets 1-9", "coast 0-2 1-20 0-5 0-20 1-30", "shoal 0-63 1-99 0-4",
            "boat 0-63 0-20 0-2", "deaf 0-5"},
        {"row 0-5 0-3", "claim 0-5 0-5 1-20", "all 0-5 1-20", "split 0-5 0-5", "net 0-5 0-5", "wait"},
        {"said 0-99 0-99", "ahead 0-8 0-8"},
    };

    int text(int sort, int at) {
        fault = 0;
        place = -1;
        String s = tape.toString();
        tape.setLength(0);
        if (sort < 0 || sort > 2) {
            return -2;
        }
        List<?> all = sort == 0 ? seas : sort == 1 ? days : disputes;
        if (at == -1 ? all.size() == 2 : at < 0 || at >= all.size()) {
            return -2;
        }
        List<int[]> lines = new ArrayList<>();
        List<int[]> faults = new ArrayList<>();
        parse(s, sort, lines, faults);
        int number = at == -1 ? all.size() : at;
        if (!pick(faults, 1) && !pick(faults, 3)) {
            Object made = make(sort, lines);
            if (made == null) {
                fault = 4;
                place = s.length();
            } else {
                store(sort, number, made);
            }
        }
        return fault == 0 ? number : -1;
    }

    private boolean pick(List<int[]> faults, int upTo) {
        int[] best = null;
        for (int[] f : faults) {
            if (f[0] <= upTo && (best == null || f[1] < best[1] || f[1] == best[1] && f[0] < best[0])) {
                best = f;
            }
        }
        if (best != null) {
            fault = best[0];
            place = best[1];
        }
        return best != null;
    }

    @SuppressWarnings("unchecked")
    private void store(int sort, int number, Object made) {
        List<Object> all = (List<Object>) (Object) (sort == 0 ? seas : sort == 1 ? days : disputes);
        if (number == all.size()) {
            all.add(made);
        } else {
            all.set(number, made);
        }
    }

    /** Lines: kind, numbers. A FAULT 1 ends them. */
    private static void parse(String s, int sort, List<int[]> lines, List<int[]> faults) {
        List<String> tokens = new ArrayList<>();
        List<Integer> places = new ArrayList<>();
        int at = 0;
        while (at < s.length()) {
            char c = s.charAt(at);
            int to = at + 1;
            if (c >= 'a' && c <= 'z') {
                while (to < s.length() && s.charAt(to) >= 'a' && s.charAt(to) <= 'z') {
                    to++;
                }
            } else if (c >= '0' && c <= '9') {
                while (to < s.length() && s.charAt(to) >= '0' && s.charAt(to) <= '9') {
                    to++;
                }
            }
            if (c != '\n' && c != ' ') {
                tokens.add(s.substring(at, to));
                places.add(at);
            }
            at = to;
        }
        tokens.add("");
        places.add(s.length());
        int[] howMany = new int[2];
        int t = 0;
        while (!tokens.get(t).isEmpty()) {
            int kind = -1;
            String[] rule = null;
            for (int k = 0; k < GRAMMAR[sort].length; k++) {
                if (GRAMMAR[sort][k].split(" ")[0].equals(tokens.get(t))) {
                    kind = k;
                    rule = GRAMMAR[sort][k].split(" ");
                }
            }
            if (rule == null) {
                faults.add(new int[] {1, places.get(t)});
                return;
            }
            tooMany(sort, kind, howMany, places.get(t), faults);
            int[] line = new int[rule.length];
            line[0] = kind;
            for (int i = 1; i < rule.length; i++) {
                t++;
                if (!tokens.get(t).matches("[0-9]{1,2}")) {
                    faults.add(new int[] {1, places.get(t)});
                    return;
                }
                line[i] = Integer.parseInt(tokens.get(t));
                String[] range = rule[i].split("-");
                boolean bad = line[i] < Integer.parseInt(range[0]) || line[i] > Integer.parseInt(range[1]);
                bad |= sort == 2 && i == 2 && (kind == 0 ? line[2] < line[1] : line[2] == line[1]);
                if (bad) {
                    faults.add(new int[] {2, places.get(t)});
                }
            }
            t++;
            if (!tokens.get(t).equals(";")) {
                faults.add(new int[] {1, places.get(t)});
                return;
            }
            t++;
            lines.add(line);
        }
    }

    private static void tooMany(int sort, int kind, int[] howMany, int where, List<int[]> faults) {
        int which = -1;
        int most = 0;
        if (sort == 0 && (kind == 4 || kind == 5)) {
            which = kind - 4;
            most = kind == 4 ? 4 : 6;
        } else if (sort == 1) {
            which = 0;
            most = 30;
        } else if (sort == 2) {
            which = kind;
            most = kind == 0 ? 9 : 16;
        }
        if (which >= 0 && ++howMany[which] > most) {
            faults.add(new int[] {3, where});
        }
    }

    private static Object make(int sort, List<int[]> lines) {
        if (sort == 1) {
            return lines;
        }
        if (sort == 2) {
            MDispute d = new MDispute();
            for (int[] line : lines) {
                (line[0] == 0 ? d.said : d.ahead).add(new int[] {line[1], line[2]});
            }
            for (int[] a : d.ahead) {
                if (a[0] >= d.said.size() || a[1] >= d.said.size()) {
                    return null;
                }
            }
            return d.said.isEmpty() ? null : d;
        }
        MSea sea = new MSea();
        for (int[] line : lines) {
            int[] rest = Arrays.copyOfRange(line, 1, line.length);
            switch (line[0]) {
                case 0: sea.w = line[1]; sea.h = line[2]; break;
                case 1: sea.side = line[1]; sea.strength = line[2]; break;
                case 2: sea.nets = line[1]; break;
                case 3: sea.law[line[1]] = Arrays.copyOfRange(line, 2, 6); break;
                case 4: sea.shoals.add(rest); break;
                case 5: sea.boats.add(rest); break;
                default: sea.deaf |= 1 << line[1]; break;
            }
        }
        for (int[] s : sea.shoals) {
            if (s[0] >= sea.w * sea.h) {
                return null;
            }
        }
        for (int[] b : sea.boats) {
            if (b[0] >= sea.w * sea.h) {
                return null;
            }
        }
        for (int b = sea.boats.size(); b < 6; b++) {
            if ((sea.deaf >> b & 1) == 1) {
                return null;
            }
        }
        return sea;
    }

    MSea sea(int n) {
        return n < 0 || n >= seas.size() ? null : seas.get(n);
    }

    List<int[]> day(int n) {
        return n < 0 || n >= days.size() ? null : days.get(n);
    }

    MDispute dispute(int n) {
        return n < 0 || n >= disputes.size() ? null : disputes.get(n);
    }

    // ---- plain answers

    int seaWhat(int n, int what) {
        MSea s = sea(n);
        if (s == null) {
            return -1;
        }
        if (what >= 10 && what <= 21) {
            return s.law[(what - 10) / 4][(what - 10) % 4];
        }
        int[] all = {s.w, s.h, s.side, s.strength, s.nets, s.shoals.size(), s.boats.size()};
        return what < 0 || what >= all.length ? -1 : all[what];
    }

    int shoalWhat(int n, int shoal, int what) {
        MSea s = sea(n);
        return s == null || !in(shoal, s.shoals.size()) || !in(what, 3) ? -1 : s.shoals.get(shoal)[what];
    }

    int boatWhat(int n, int boat, int what) {
        MSea s = sea(n);
        if (s == null || !in(boat, s.boats.size()) || !in(what, 4)) {
            return -1;
        }
        return what == 3 ? s.deaf >> boat & 1 : s.boats.get(boat)[what];
    }

    int deed(int n, int k, int what) {
        List<int[]> d = day(n);
        if (d == null) {
            return -2;
        }
        if (k == -1 && what == 0) {
            return d.size();
        }
        if (!in(k, d.size()) || !in(what, 4)) {
            return -2;
        }
        int[] line = d.get(k);
        return what < line.length ? line[what] : -1;
    }

    static boolean in(int x, int below) {
        return x >= 0 && x < below;
    }

    // ---- words

    static int beside(MSea s, int cell, int side) {
        int row = cell / s.w + (side == 0 ? -1 : side == 2 ? 1 : 0);
        int column = cell % s.w + (side == 1 ? 1 : side == 3 ? -1 : 0);
        boolean there = in(row, s.h) && in(column, s.w) && side != 4;
        return there ? row * s.w + column : -1;
    }

    static int drifted(MSea s, int cell, int side) {
        int next = beside(s, cell, side);
        return next < 0 ? cell : next;
    }

    private final java.util.Map<String, int[]> ways = new java.util.HashMap<>();

    int far(MSea s, int from, int to) {
        String key = s.w + " " + s.h + " " + s.side + " " + s.strength + " " + from;
        int[] best = ways.computeIfAbsent(key, k -> waysFrom(s, from));
        return best[to];
    }

    private static int[] waysFrom(MSea s, int from) {
        int[] best = new int[s.w * s.h];
        Arrays.fill(best, Integer.MAX_VALUE);
        best[from] = 0;
        PriorityQueue<int[]> open = new PriorityQueue<>((a, b) -> a[0] - b[0]);
        open.add(new int[] {0, from});
        while (!open.isEmpty()) {
            int[] now = open.poll();
            for (int side = 0; side < 4; side++) {
                int next = beside(s, now[1], side);
                int cost = now[0] + 1 + ((side + 2) % 4 == s.side ? s.strength : 0);
                if (next >= 0 && cost < best[next]) {
                    best[next] = cost;
                    open.add(new int[] {cost, next});
                }
            }
        }
        return best;
    }

    int farWhat(int n, int from, int to) {
        MSea s = sea(n);
        return s == null || !in(from, s.w * s.h) || !in(to, s.w * s.h) ? -1 : far(s, from, to);
    }

    int[] cellsOf(MSea s) {
        int[] cells = new int[s.boats.size()];
        for (int b = 0; b < cells.length; b++) {
            cells[b] = s.boats.get(b)[0];
        }
        return cells;
    }

    boolean hears(MSea s, int[] cells, int hearer, int speaker, int voice) {
        return hearer != speaker && (s.deaf >> hearer & 1) == 0 && far(s, cells[speaker], cells[hearer]) <= voice;
    }

    int hearers(MSea s, int[] cells, int speaker, int voice) {
        int bits = 0;
        for (int b = 0; b < cells.length; b++) {
            bits |= hears(s, cells, b, speaker, voice) ? 1 << b : 0;
        }
        return bits;
    }

    int hearers(MSea s, int[] cells, int speaker) {
        return hearers(s, cells, speaker, s.boats.get(speaker)[1]);
    }

    /** Steps of hearing from each boat to each by Floyd and Warshall. */
    int[][] steps(MSea s) {
        int n = s.boats.size();
        int[][] d = new int[n][n];
        for (int a = 0; a < n; a++) {
            int bits = hearers(s, cellsOf(s), a);
            for (int b = 0; b < n; b++) {
                d[a][b] = a == b ? 0 : (bits >> b & 1) == 1 ? 1 : 1000;
            }
        }
        for (int k = 0; k < n; k++) {
            for (int a = 0; a < n; a++) {
                for (int b = 0; b < n; b++) {
                    d[a][b] = Math.min(d[a][b], d[a][k] + d[k][b]);
                }
            }
        }
        return d;
    }

    int hearsWhat(int n, int boat, int to) {
        MSea s = sea(n);
        if (s == null || !in(boat, s.boats.size())) {
            return -1;
        }
        if (!in(to, 6)) {
            return hearers(s, cellsOf(s), boat);
        }
        if (to == boat || to >= s.boats.size()) {
            return -1;
        }
        int d = steps(s)[boat][to];
        return d >= 1000 ? -1 : d - 1;
    }

    int tells(int n, int boat) {
        MSea s = sea(n);
        if (s == null || !in(boat, s.boats.size())) {
            return -1;
        }
        int others = 0;
        for (int d : steps(s)[boat]) {
            others += d > 0 && d < 1000 ? 1 : 0;
        }
        return others;
    }

    int loud(int n) {
        MSea s = sea(n);
        if (s == null || s.boats.isEmpty()) {
            return -1;
        }
        int best = 0;
        for (int b = 1; b < s.boats.size(); b++) {
            if (Integer.bitCount(hearers(s, cellsOf(s), b)) > Integer.bitCount(hearers(s, cellsOf(s), best))) {
                best = b;
            }
        }
        return best;
    }

    int winds(int n, int what) {
        MSea s = sea(n);
        if (s == null || !in(what, 3)) {
            return -1;
        }
        int[] best = null;
        for (int strength = 0; strength < 4; strength++) {
            for (int side = 0; side < (strength == 0 ? 1 : 4); side++) {
                MSea t = withWind(s, side, strength);
                int couples = 0;
                for (int b = 0; b < t.boats.size(); b++) {
                    couples += Integer.bitCount(hearers(t, cellsOf(t), b));
                }
                if (best == null || couples > best[2]) {
                    best = new int[] {strength, side, couples};
                }
            }
        }
        return best[what];
    }

    private static MSea withWind(MSea s, int side, int strength) {
        MSea t = new MSea();
        t.w = s.w;
        t.h = s.h;
        t.side = side;
        t.strength = strength;
        t.deaf = s.deaf;
        t.boats = s.boats;
        return t;
    }

    int meet(int n, int a, int b) {
        MSea s = sea(n);
        if (s == null || a == b || !in(a, s.shoals.size()) || !in(b, s.shoals.size())) {
            return -1;
        }
        for (int hour = 0; hour <= 60; hour++) {
            if (cellAt(s, a, hour) == cellAt(s, b, hour)) {
                return hour;
            }
        }
        return -1;
    }

    static int cellAt(MSea s, int shoal, int hour) {
        int cell = s.shoals.get(shoal)[0];
        for (int h = 0; h < hour; h++) {
            cell = drifted(s, cell, s.shoals.get(shoal)[2]);
        }
        return cell;
    }

    // ---- days

    static final class MShoal {
        int cell, fish, drift, holder = -1, syllables, claimHour, hold;
        boolean netted;

        int holderAt(int hour) {
            return holder >= 0 && hour > claimHour && hour <= claimHour + hold ? holder : -1;
        }
    }

    /** A day up to n deeds, with all its records. */
    final class MRun {
        final MSea s;
        final List<int[]> deeds;
        final List<MShoal> shoals = new ArrayList<>();
        final int[] cells, fish, lawful;
        final List<int[]> records = new ArrayList<>();
        int hour, twice, x;
        final int gulls;

        MRun(MSea s, List<int[]> deeds, int upTo, int seed, int gulls) {
            this.s = s;
            this.deeds = deeds;
            this.x = seed;
            this.gulls = gulls;
            cells = cellsOf(s);
            fish = new int[cells.length];
            lawful = new int[cells.length];
            for (int[] told : s.shoals) {
                MShoal m = new MShoal();
                m.cell = told[0];
                m.fish = told[1];
                m.drift = told[2];
                shoals.add(m);
            }
            while (hour < upTo && hour < deeds.size() && step(deeds.get(hour))) {
                for (MShoal m : shoals) {
                    m.cell = drifted(s, m.cell, m.drift);
                }
                hour++;
            }
        }

        MShoal there(int shoal) {
            return !in(shoal, shoals.size()) || shoals.get(shoal).netted ? null : shoals.get(shoal);
        }

        int lack(int b, MShoal m, int witnesses) {
            int[] law = s.law[s.boats.get(b)[2]];
            int held = m.holderAt(hour);
            return (held >= 0 && held != b ? 1 : 0) + (Integer.bitCount(witnesses) < law[1] ? 2 : 0)
                + (far(s, cells[b], m.cell) > law[2] ? 4 : 0);
        }

        boolean step(int[] deed) {
            int[] record = {deed[0], 0, 0, -1};
            records.add(record);
            if (deed[0] == 5) {
                return true;
            }
            int b = deed[1];
            if (b >= cells.length) {
                return false;
            }
            if (deed[0] == 0) {
                int next = beside(s, cells[b], deed[2]);
                cells[b] = next < 0 ? cells[b] : next;
                return next >= 0;
            }
            if (deed[0] == 2) {
                record[2] = hearers(s, cells, b);
                for (int i = 0; i < shoals.size(); i++) {
                    if (there(i) != null) {
                        claim(b, i, deed[2], record);
                    }
                }
                return true;
            }
            MShoal m = there(deed[2]);
            if (m == null) {
                return false;
            }
            if (deed[0] == 1) {
                record[2] = hearers(s, cells, b);
                claim(b, deed[2], deed[3], record);
                return true;
            }
            return deed[0] == 3 ? split(b, m) : net(b, m, record);
        }

        void claim(int b, int i, int syllables, int[] record) {
            MShoal m = shoals.get(i);
            int witnesses = 0;
            for (int o = 0; o < cells.length; o++) {
                if (hears(s, cells, o, b, s.boats.get(b)[1])) {
                    x = (int) (x * 1103515245L + 12345L);
                    int drawn = (x >>> 16) % 10;
                    witnesses |= drawn < gulls ? 0 : 1 << o;
                }
            }
            int[] law = s.law[s.boats.get(b)[2]];
            int lack = lack(b, m, witnesses) + (syllables < law[0] ? 8 : 0);
            if (lack == 0) {
                m.holder = b;
                m.syllables = syllables;
                m.claimHour = hour;
                m.hold = law[3];
                lawful[b]++;
                record[1] |= 1 << i;
            } else if (lack == 1) {
                twice |= 1 << i;
            }
        }

        boolean split(int b, MShoal m) {
            if (m.holderAt(hour) != b || m.fish < 2 || shoals.size() == 6) {
                return false;
            }
            MShoal half = new MShoal();
            half.cell = m.cell;
            half.fish = m.fish / 2;
            half.drift = new int[] {2, 3, 0, 1, 4}[m.drift];
            m.fish -= half.fish;
            shoals.add(half);
            return true;
        }

        boolean net(int b, MShoal m, int[] record) {
            if (m.cell != cells[b]) {
                return false;
            }
            int held = m.holderAt(hour);
            int[] before = fish.clone();
            int his = held < 0 || held == b ? 0 : m.fish * m.syllables / (m.syllables + s.nets);
            fish[b] += m.fish - his;
            if (his > 0) {
                fish[held] += his;
            }
            record[1] = fish[b] - before[b];
            record[2] = held < 0 ? 0 : fish[held] - before[held];
            record[3] = held;
            m.netted = true;
            return true;
        }
    }

    MRun run(int n, int d, int upTo) {
        return sea(n) == null || day(d) == null ? null : new MRun(sea(n), day(d), upTo, 0, 0);
    }

    MRun stateOf(int n, int d, int upTo) {
        MRun r = upTo < 0 ? null : run(n, d, upTo);
        return r == null || r.hour != upTo ? null : r;
    }

    int stop(int n, int d) {
        MRun r = run(n, d, 99);
        return r == null ? -1 : r.hour;
    }

    int state(int n, int d, int upTo, int shoal, int what) {
        MRun r = stateOf(n, d, upTo);
        MShoal m = r == null ? null : r.there(shoal);
        if (m == null || !in(what, 6)) {
            return -2;
        }
        boolean held = m.holderAt(upTo) >= 0;
        int hoursHeld = 0;
        for (int h = upTo; h < upTo + 40; h++) {
            hoursHeld += m.holderAt(h) >= 0 ? 1 : 0;
        }
        return new int[] {m.cell, m.fish, m.holderAt(upTo), held ? m.syllables : 0, hoursHeld, m.drift}[what];
    }

    int has(int n, int d, int upTo, int boat, int what) {
        MRun r = stateOf(n, d, upTo);
        if (r == null || !in(boat, r.cells.length) || !in(what, 5)) {
            return -2;
        }
        int alone = 0;
        int holds = 0;
        for (int i = 0; i < 6; i++) {
            MShoal m = r.there(i);
            if (m != null) {
                alone |= r.lack(boat, m, hearers(r.s, r.cells, boat)) == 0 ? 1 << i : 0;
                holds |= m.holderAt(upTo) == boat ? 1 << i : 0;
            }
        }
        return new int[] {r.cells[boat], r.fish[boat], alone, holds, r.lawful[boat]}[what];
    }

    int claimed(int n, int d, int k, boolean witness) {
        MRun r = run(n, d, 99);
        if (r == null || !in(k, r.hour) || r.records.get(k)[0] < 1 || r.records.get(k)[0] > 2) {
            return -1;
        }
        return r.records.get(k)[witness ? 2 : 1];
    }

    int shares(int n, int d, int k, int what) {
        MRun r = run(n, d, 99);
        if (r == null || !in(k, r.hour) || r.records.get(k)[0] != 4 || !in(what, 3)) {
            return -2;
        }
        return r.records.get(k)[new int[] {1, 3, 2}[what]];
    }

    int twice(int n, int d) {
        MRun r = run(n, d, 99);
        return r == null ? -1 : r.twice;
    }

    int gulls(int n, int d, int seed, int k, int what) {
        if (sea(n) == null || day(d) == null || !in(k, 11)) {
            return -1;
        }
        MRun r = new MRun(sea(n), day(d), 99, seed, k);
        if (what == 0) {
            return Arrays.stream(r.lawful).sum();
        }
        if (what == 1) {
            return r.hour;
        }
        return in(what - 10, r.cells.length) ? r.fish[what - 10] : -1;
    }

    int lack(int n, int d, int upTo, int boat, int shoal) {
        MRun r = stateOf(n, d, upTo);
        MShoal m = r == null ? null : r.there(shoal);
        return m == null || !in(boat, r.cells.length) ? -1 : r.lack(boat, m, hearers(r.s, r.cells, boat));
    }

    int sum(int n, int d, int what) {
        MRun r = run(n, d, 99);
        if (r == null || !in(what, 4)) {
            return -2;
        }
        int most = -1;
        int fewest = -1;
        int[] coasts = new int[3];
        for (int b = 0; b < r.fish.length; b++) {
            most = most < 0 || r.fish[b] > r.fish[most] ? b : most;
            fewest = fewest < 0 || r.fish[b] < r.fish[fewest] ? b : fewest;
            coasts[r.s.boats.get(b)[2]] += r.fish[b];
        }
        int spared = 0;
        for (MShoal m : r.shoals) {
            spared += m.netted ? 0 : m.fish;
        }
        int coast = coasts[0] >= coasts[1] && coasts[0] >= coasts[2] ? 0 : coasts[1] >= coasts[2] ? 1 : 2;
        int luck = most < 0 ? 0 : r.fish[most] - r.fish[fewest];
        return new int[] {luck, spared, coast, most}[what];
    }

    // ---- choices

    /** Whether a boat could claim lawfully, with a voice, all boats in these cells and the shoal in this one. */
    boolean could(MSea s, int[] cells, int boat, int voice, int shoalCell) {
        int[] law = s.law[s.boats.get(boat)[2]];
        return Integer.bitCount(hearers(s, cells, boat, voice)) >= law[1] && far(s, cells[boat], shoalCell) <= law[2];
    }

    int least(int n, int boat, int shoal) {
        MSea s = sea(n);
        if (s == null || !in(boat, s.boats.size()) || !in(shoal, s.shoals.size())) {
            return -1;
        }
        for (int voice = 0; voice <= 20; voice++) {
            if (could(s, cellsOf(s), boat, voice, s.shoals.get(shoal)[0])) {
                return voice;
            }
        }
        return -1;
    }

    int soon(int n, int boat, int shoal, int what) {
        MSea s = sea(n);
        if (s == null || !in(boat, s.boats.size()) || !in(shoal, s.shoals.size())) {
            return -1;
        }
        List<String> ways = new ArrayList<>();
        int[] cells = cellsOf(s);
        String[] wayTo = new String[s.w * s.h];
        wayTo[cells[boat]] = "";
        for (int hour = 0; hour <= 30; hour++) {
            for (int cell = 0; cell < wayTo.length; cell++) {
                cells[boat] = cell;
                if (wayTo[cell] != null && could(s, cells, boat, s.boats.get(boat)[1], cellAt(s, shoal, hour))) {
                    ways.add(wayTo[cell]);
                }
            }
            if (!ways.isEmpty()) {
                break;
            }
            String[] next = new String[wayTo.length];
            for (int cell = 0; cell < wayTo.length; cell++) {
                for (int act = 0; act < 5 && wayTo[cell] != null; act++) {
                    int to = act == 4 ? cell : beside(s, cell, act);
                    if (to >= 0 && (next[to] == null || next[to].compareTo(wayTo[cell] + act) > 0)) {
                        next[to] = wayTo[cell] + act;
                    }
                }
            }
            wayTo = next;
        }
        if (ways.isEmpty()) {
            return -1;
        }
        String way = ways.stream().sorted().findFirst().get();
        if (what == 0) {
            return way.length();
        }
        return in(what - 10, way.length()) ? way.charAt(what - 10) - '0' : -1;
    }

    int claimableFish(MSea s, int[] cells, int a, int b) {
        int fish = 0;
        for (int[] shoal : s.shoals) {
            boolean can = could(s, cells, a, s.boats.get(a)[1], shoal[0]) || could(s, cells, b, s.boats.get(b)[1], shoal[0]);
            fish += can ? shoal[1] : 0;
        }
        return fish;
    }

    int berth(int n, int boat, boolean wantFish) {
        MSea s = sea(n);
        if (s == null || !in(boat, s.boats.size())) {
            return -1;
        }
        int[] best = null;
        for (int cell = 0; cell < s.w * s.h; cell++) {
            int[] cells = cellsOf(s);
            cells[boat] = cell;
            int fish = claimableFish(s, cells, boat, boat);
            if (best == null || fish > best[1]) {
                best = new int[] {cell, fish};
            }
        }
        return best[wantFish ? 1 : 0];
    }

    int[] pair(int n, int a, int b) {
        MSea s = sea(n);
        if (s == null || a == b || !in(a, s.boats.size()) || !in(b, s.boats.size())) {
            return new int[] {-1, -1, -1};
        }
        int[] best = null;
        for (int one = 0; one < s.w * s.h; one++) {
            for (int two = 0; two < s.w * s.h; two++) {
                int[] cells = cellsOf(s);
                cells[a] = one;
                cells[b] = two;
                int fish = claimableFish(s, cells, a, b);
                if (best == null || fish > best[2]) {
                    best = new int[] {one, two, fish};
                }
            }
        }
        return best;
    }

    // ---- disputes

    static void permutations(int n, List<Integer> begun, List<int[]> all) {
        if (begun.size() == n) {
            all.add(begun.stream().mapToInt(i -> i).toArray());
        }
        for (int i = 0; i < n; i++) {
            if (!begun.contains(i)) {
                begun.add(i);
                permutations(n, begun, all);
                begun.remove(begun.size() - 1);
            }
        }
    }

    static List<int[]> orders(int n, List<int[]> aheads) {
        List<int[]> all = new ArrayList<>();
        permutations(n, new ArrayList<>(), all);
        List<int[]> good = new ArrayList<>();
        for (int[] order : all) {
            int[] at = new int[n];
            for (int i = 0; i < n; i++) {
                at[order[i]] = i;
            }
            if (aheads.stream().allMatch(a -> at[a[0]] < at[a[1]])) {
                good.add(order);
            }
        }
        return good;
    }

    static void hoursOf(MDispute d, int[] hours, int i, List<int[]> all) {
        if (i == hours.length) {
            for (int[] a : d.ahead) {
                if (hours[a[0]] >= hours[a[1]]) {
                    return;
                }
            }
            all.add(hours.clone());
            return;
        }
        for (int h = d.said.get(i)[0]; h <= d.said.get(i)[1]; h++) {
            hours[i] = h;
            hoursOf(d, hours, i + 1, all);
        }
    }

    static boolean cyclic(int n, List<int[]> aheads, int without) {
        List<Integer> left = new ArrayList<>();
        for (int i = 0; i < n; i++) {
            left.add(i);
        }
        boolean moved = true;
        while (moved) {
            moved = left.removeIf(v -> {
                for (int k = 0; k < aheads.size(); k++) {
                    if ((without >> k & 1) == 0 && aheads.get(k)[1] == v && left.contains(aheads.get(k)[0])) {
                        return false;
                    }
                }
                return true;
            });
        }
        return !left.isEmpty();
    }

    static int fewest(MDispute d) {
        int best = -1;
        for (int bits = 0; bits < 1 << d.ahead.size(); bits++) {
            if ((best < 0 || Integer.bitCount(bits) < Integer.bitCount(best)) && !cyclic(d.said.size(), d.ahead, bits)) {
                best = bits;
            }
        }
        return best;
    }
}
