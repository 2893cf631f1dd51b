import java.util.ArrayList;
import java.util.Arrays;
import java.util.Collections;
import java.util.HashMap;
import java.util.List;
import java.util.Map;
import java.util.Random;

/**
 * Random runs of calls on KeptVersions and on a slow model that follows the document's words in other ways
 * (scripts of keeping, dropping and coming instead of a table; all stores tried; hunks grouped by naming
 * the lines of the row between), answer for answer.
 */
public final class AgainstModelTest {
    private static int wrong = 0;

    public static void main(String[] args) {
        for (int seed = 1; seed <= 3000 && wrong < 20; seed++) {
            new Run(seed).go(220);
        }
        System.out.println(wrong == 0 ? "as the model in all runs" : wrong + " answers are not as the model's");
        if (wrong != 0) {
            System.exit(1);
        }
    }

    /** One run of calls on a new object. */
    private static final class Run {
        private final int seed;
        private final Random random;
        private final KeptVersions x = new KeptVersions();
        private final Model m = new Model();
        private final StringBuilder told = new StringBuilder();
        private final int lines;
        private final boolean wild;
        private boolean broken = false;

        Run(int seed) {
            this.seed = seed;
            random = new Random(seed);
            lines = 1 + random.nextInt(6);
            wild = seed % 5 == 0;
        }

        void go(int calls) {
            if (seed % 3 == 1) {
                longDesk();
            }
            for (int i = 0; i < calls && !broken; i++) {
                if (seed % 4 == 2 && random.nextInt(3) == 0) {
                    nearVersion();
                } else if (seed % 4 == 3 && random.nextInt(6) == 0) {
                    hunk();
                } else if (seed % 7 == 5 && i > 80 && random.nextInt(4) == 0) {
                    stores();
                } else {
                    step();
                }
                if (i % 10 == 9) {
                    same("digest()", x.digest(), m.digest());
                }
            }
        }

        private void same(String call, long got, long want) {
            told.append(call).append(" = ").append(got).append('\n');
            if (got != want && !broken) {
                broken = true;
                wrong++;
                System.out.println("seed " + seed + ": " + call + " answered " + got + ", the model " + want + "; the run:\n" + told);
            }
        }

        private int odd() {
            int[] odds = {-2, -1, 0, 14, 15, 99, 100, Integer.MIN_VALUE, Integer.MAX_VALUE, -101, 10, 12, 28, 38};
            return odds[random.nextInt(odds.length)];
        }

        private int below(int n) {
            if (wild && random.nextInt(12) == 0) {
                return odd();
            }
            return n <= 0 ? 0 : random.nextInt(n);
        }

        private int version() {
            return below(m.versions.size());
        }

        private int patch() {
            int n = m.patches.size();
            return n > 3 && random.nextInt(3) > 0 ? n - 1 - random.nextInt(3) : below(n);
        }

        private int parent() {
            return random.nextInt(3) == 0 ? -1 : version();
        }

        private void step() {
            switch (random.nextInt(46)) {
                case 0: case 1: case 2: case 3: case 4: case 5: { int at = below(m.desk.size() + 1), v = below(lines); same("line(" + at + "," + v + ")", x.line(at, v), m.line(at, v)); break; }
                case 6: case 7: { int at = below(m.desk.size()); same("drop(" + at + ")", x.drop(at), m.drop(at)); break; }
                case 8: { int v = random.nextInt(4) == 0 ? -1 : version(); same("take(" + v + ")", x.take(v), m.take(v)); break; }
                case 9: { int i = below(15); same("desk(" + i + ")", x.desk(i), m.at(m.desk, i)); break; }
                case 10: case 11: case 12: { int p = parent(), q = parent(); same("keep(" + p + "," + q + ")", x.keep(p, q), m.keep(p, q)); break; }
                case 13: { int v = version(), i = below(15); same("text(" + v + "," + i + ")", x.text(v, i), m.text(v, i)); break; }
                case 14: { int v = version(), w = below(6); same("about(" + v + "," + w + ")", x.about(v, w), m.about(v, w)); break; }
                case 15: { int v = version(), w = below(10); same("asked(" + v + "," + w + ")", x.asked(v, w), m.asked(v, w)); break; }
                case 16: { int u = version(), v = version(), w = below(6); same("differ(" + u + "," + v + "," + w + ")", x.differ(u, v, w), m.differ(u, v, w)); break; }
                case 17: { int u = version(), v = version(), i = below(14); same("kept(" + u + "," + v + "," + i + ")", x.kept(u, v, i), m.kept(u, v, i)); break; }
                case 18: { int u = version(), v = version(); same("patch(" + u + "," + v + ")", x.patch(u, v), m.patch(u, v)); break; }
                case 19: { same("blank()", x.blank(), m.blank()); break; }
                case 20: case 21: case 22: case 23: case 24: case 25: hunk(); break;
                case 26: { int p = patch(), w = below(5); same("of(" + p + "," + w + ")", x.of(p, w), m.of(p, w)); break; }
                case 27: { int p = patch(), i = below(4), w = below(70); same("hunkOf(" + p + "," + i + "," + w + ")", x.hunkOf(p, i, w), m.hunkOf(p, i, w)); break; }
                case 28: { int p = patch(); same("fits(" + p + ")", x.fits(p), m.fits(p)); break; }
                case 29: { int p = patch(); same("lay(" + p + ")", x.lay(p), m.lay(p)); break; }
                case 30: case 31: { int p = patch(); same("loose(" + p + ")", x.loose(p), m.loose(p)); break; }
                case 32: { int p = patch(); same("turn(" + p + ")", x.turn(p), m.turn(p)); break; }
                case 33: case 34: { int p = patch(), q = patch(); same("together(" + p + "," + q + ")", x.together(p, q), m.together(p, q)); break; }
                case 35: { int p = patch(), q = patch(); same("swap(" + p + "," + q + ")", x.swap(p, q), m.swap(p, q)); break; }
                case 36: case 37: { int b = version(), u = version(), v = version(); same("clash(" + b + "," + u + "," + v + ")", x.clash(b, u, v), m.clash(b, u, v)); break; }
                case 38: { int b = version(), u = version(), v = version(); same("join(" + b + "," + u + "," + v + ")", x.join(b, u, v), m.join(b, u, v)); break; }
                case 39: { int v = version(), i = below(14); same("brought(" + v + "," + i + ")", x.brought(v, i), m.brought(v, i)); break; }
                case 40: { int v = version(), w = version(); same("share(" + v + "," + w + ")", x.share(v, w), m.share(v, w)); break; }
                case 41: case 42: case 43: stores(); break;
                case 44: { int w = below(5); same("count(" + w + ")", x.count(w), m.count(w)); break; }
                default: nearVersion(); break;
            }
        }

        private void hunk() {
            int p = patch();
            int last = m.patches.isEmpty() || p < 0 || p >= m.patches.size() ? 0 : m.nextPlace(m.patches.get(p));
            int at = random.nextInt(4) == 0 ? below(16) : last + random.nextInt(3);
            int goes = random.nextInt(3) == 0 ? -1 : below(lines);
            int comes = random.nextInt(3) == 0 ? -1 : below(lines);
            if (at < m.desk.size() && at >= 0 && goes >= 0 && random.nextInt(2) == 0) {
                goes = m.desk.get(at);
            }
            same("hunk(" + p + "," + at + "," + goes + "," + comes + ")", x.hunk(p, at, goes, comes), m.hunk(p, at, goes, comes));
        }

        private void longDesk() {
            for (int n = 8 + random.nextInt(7); n > 0; n--) {
                int v = random.nextInt(lines);
                same("line(0," + v + ")", x.line(0, v), m.line(0, v));
            }
            same("keep(-1,-1)", x.keep(-1, -1), m.keep(-1, -1));
        }

        /** A version near another one, so that differences, joins and patches meet often. */
        private void nearVersion() {
            int v = m.versions.isEmpty() ? -1 : random.nextInt(m.versions.size());
            same("take(" + v + ")", x.take(v), m.take(v));
            for (int k = 0; k < 3; k++) {
                if (!m.desk.isEmpty() && random.nextBoolean()) {
                    int at = random.nextInt(m.desk.size());
                    same("drop(" + at + ")", x.drop(at), m.drop(at));
                }
                if (random.nextBoolean()) {
                    int at = random.nextInt(m.desk.size() + 1), line = random.nextInt(lines);
                    same("line(" + at + "," + line + ")", x.line(at, line), m.line(at, line));
                }
            }
            same("keep(" + v + ",-1)", x.keep(v, -1), m.keep(v, -1));
        }

        private void stores() {
            int n = 1 + below(Math.min(6, m.versions.size() + 1));
            int bound = random.nextInt(3) == 0 ? 1 + below(999) : 1 + below(24);
            int r = random.nextInt(4) == 0 ? below(100) : below(12);
            switch (random.nextInt(3)) {
                case 0: { int w = random.nextInt(3) == 0 ? below(30) : random.nextBoolean() ? below(2) : 10 + 10 * random.nextInt(2) + below(6);
                    same("store(" + n + "," + bound + "," + w + ")", x.store(n, bound, w), m.store(n, bound, w)); break; }
                case 1: { int w = below(3); same("worst(" + n + "," + bound + "," + w + ")", x.worst(n, bound, w), m.worst(n, bound, w)); break; }
                default: { int w = below(3); same("saved(" + n + "," + bound + "," + r + "," + w + ")", x.saved(n, bound, r, w), m.saved(n, bound, r, w)); break; }
            }
        }
    }

    /** A hunk: where it begins, lines that go, lines that come. */
    private record H(int at, List<Integer> goes, List<Integer> comes) {
        int end() { return at + goes.size(); }
    }

    private static final class V {
        List<Integer> row;
        int p, q, asked = 1;
    }

    /** The document's words, as plainly as may be. */
    private static final class Model {
        static final int NONE = -1, UNKNOWN = -101, OUTSIDE = -102, STATE = -103, FULL = -104;
        List<Integer> desk = new ArrayList<>();
        final List<V> versions = new ArrayList<>();
        final List<List<H>> patches = new ArrayList<>();
        int done = 0;

        boolean noV(int v) { return v < 0 || v >= versions.size(); }
        boolean noP(int p) { return p < 0 || p >= patches.size(); }
        int at(List<Integer> row, int i) { return i < 0 || i >= row.size() ? NONE : row.get(i); }

        int line(int at, int v) {
            if (at < 0 || at > desk.size() || v < 0 || v > 99) return OUTSIDE;
            if (desk.size() == 14) return FULL;
            desk.add(at, v);
            return desk.size();
        }
        int drop(int at) { return at < 0 || at >= desk.size() ? UNKNOWN : desk.remove(at); }
        int take(int v) {
            if (v != NONE && noV(v)) return UNKNOWN;
            desk = v == NONE ? new ArrayList<>() : new ArrayList<>(versions.get(v).row);
            return desk.size();
        }
        int keep(int p, int q) {
            if (p != NONE && noV(p) || q != NONE && noV(q)) return UNKNOWN;
            if (p != NONE && p == q || p == NONE && q != NONE) return OUTSIDE;
            if (versions.size() == 10) return FULL;
            V v = new V();
            v.row = new ArrayList<>(desk);
            v.p = p;
            v.q = q;
            versions.add(v);
            return versions.size() - 1;
        }
        int text(int v, int i) { return noV(v) ? UNKNOWN : at(versions.get(v).row, i); }
        int about(int v, int what) {
            if (noV(v)) return UNKNOWN;
            if (what < 0 || what > 4) return OUTSIDE;
            V o = versions.get(v);
            return new int[] {o.row.size(), o.p, o.q, o.asked, o.row.size() + 1}[what];
        }
        int asked(int v, int w) {
            if (noV(v)) return UNKNOWN;
            if (w < 0 || w > 9) return OUTSIDE;
            int was = versions.get(v).asked;
            versions.get(v).asked = w;
            return was;
        }

        // A way as a text of signs: 'a' keeps both, 'b' drops x's, 'c' lets y's come; of the ways with most
        // 'a' the first in the order of texts is the one that the document tells.
        private final Map<String, String> ways = new HashMap<>();
        String way(List<Integer> x, List<Integer> y) {
            String key = x + "/" + y;
            String known = ways.get(key);
            if (known != null) return known;
            String best = null;
            if (x.isEmpty() && y.isEmpty()) best = "";
            if (!x.isEmpty() && !y.isEmpty() && x.get(0).equals(y.get(0))) best = "a" + way(tail(x), tail(y));
            if (!x.isEmpty()) best = better(best, "b" + way(tail(x), y));
            if (!y.isEmpty()) best = better(best, "c" + way(x, tail(y)));
            ways.put(key, best);
            return best;
        }
        static List<Integer> tail(List<Integer> x) { return x.subList(1, x.size()); }
        static int keeps(String way) { return (int) way.chars().filter(c -> c == 'a').count(); }
        static String better(String a, String b) {
            if (a == null || keeps(b) > keeps(a)) return b;
            return keeps(b) == keeps(a) && b.compareTo(a) < 0 ? b : a;
        }
        List<H> hunks(int u, int v) {
            List<Integer> x = versions.get(u).row, y = versions.get(v).row;
            List<H> all = new ArrayList<>();
            List<Integer> goes = new ArrayList<>(), comes = new ArrayList<>();
            int i = 0, j = 0;
            for (char c : (way(x, y) + "a").toCharArray()) {
                if (c == 'b') goes.add(x.get(i++));
                if (c == 'c') comes.add(y.get(j++));
                if (c == 'a') {
                    if (goes.size() + comes.size() > 0) all.add(new H(i - goes.size(), goes, comes));
                    goes = new ArrayList<>();
                    comes = new ArrayList<>();
                    i++;
                    j++;
                }
            }
            return all;
        }
        int[] mates(int u, int v) {
            List<Integer> x = versions.get(u).row, y = versions.get(v).row;
            int[] mates = new int[x.size()];
            int i = 0, j = 0;
            for (char c : way(x, y).toCharArray()) {
                if (c == 'a') mates[i++] = j++;
                if (c == 'b') mates[i++] = NONE;
                if (c == 'c') j++;
            }
            return mates;
        }
        static int goes(List<H> p) { return p.stream().mapToInt(h -> h.goes.size()).sum(); }
        static int comes(List<H> p) { return p.stream().mapToInt(h -> h.comes.size()).sum(); }
        static int room(List<H> p) { return 2 * p.size() + comes(p) + 1; }

        int differ(int u, int v, int what) {
            if (noV(u) || noV(v)) return UNKNOWN;
            if (what < 0 || what > 4) return OUTSIDE;
            List<H> p = hunks(u, v);
            return new int[] {keeps(way(versions.get(u).row, versions.get(v).row)), p.size(), goes(p), comes(p), room(p)}[what];
        }
        int kept(int u, int v, int i) {
            if (noV(u) || noV(v) || i < 0 || i >= versions.get(u).row.size()) return UNKNOWN;
            return mates(u, v)[i];
        }
        int add(List<H> p) {
            if (patches.size() == 12) return FULL;
            patches.add(p);
            return patches.size() - 1;
        }
        int patch(int u, int v) { return noV(u) || noV(v) ? UNKNOWN : add(hunks(u, v)); }
        int blank() { return add(new ArrayList<>()); }
        int nextPlace(List<H> p) { return p.isEmpty() ? 0 : p.get(p.size() - 1).end() + 1; }
        int hunk(int p, int at, int goes, int comes) {
            if (noP(p)) return UNKNOWN;
            List<H> all = patches.get(p);
            if (at < 0 || at > 14 || goes < -1 || goes > 99 || comes < -1 || comes > 99) return OUTSIDE;
            if (goes == -1 && comes == -1 || at < nextPlace(all)) return OUTSIDE;
            List<Integer> g = goes == -1 ? List.of() : List.of(goes), c = comes == -1 ? List.of() : List.of(comes);
            if (all.size() == 10 || goes(all) + g.size() > 28 || comes(all) + c.size() > 28) return FULL;
            all.add(new H(at, g, c));
            return all.size();
        }
        int of(int p, int what) {
            if (noP(p)) return UNKNOWN;
            if (what < 0 || what > 3) return OUTSIDE;
            List<H> all = patches.get(p);
            return new int[] {all.size(), goes(all), comes(all), room(all)}[what];
        }
        int hunkOf(int p, int i, int what) {
            if (noP(p) || i < 0 || i >= patches.get(p).size()) return UNKNOWN;
            H h = patches.get(p).get(i);
            if (what == 0) return h.at;
            if (what == 1) return h.goes.size();
            if (what == 2) return h.comes.size();
            if (what >= 10 && what <= 37) return at(h.goes, what - 10);
            if (what >= 40 && what <= 67) return at(h.comes, what - 40);
            return OUTSIDE;
        }
        static boolean stands(List<Integer> row, H h, int at) {
            return at >= 0 && at + h.goes.size() <= row.size() && row.subList(at, at + h.goes.size()).equals(h.goes);
        }
        boolean fit(List<Integer> row, List<H> p) { return p.stream().allMatch(h -> stands(row, h, h.at)); }
        int fits(int p) { return noP(p) ? UNKNOWN : fit(desk, patches.get(p)) ? 1 : 0; }
        // From the last hunk to the first, so that no place moves.
        static List<Integer> laid(List<Integer> row, List<H> p) {
            List<Integer> r = new ArrayList<>(row);
            for (int i = p.size() - 1; i >= 0; i--) {
                H h = p.get(i);
                r.subList(h.at, h.end()).clear();
                r.addAll(h.at, h.comes);
            }
            return r;
        }
        int lay(int p) {
            if (noP(p)) return UNKNOWN;
            if (!fit(desk, patches.get(p))) return STATE;
            List<Integer> r = laid(desk, patches.get(p));
            if (r.size() > 14) return FULL;
            desk = r;
            return r.size();
        }
        int loose(int p) {
            if (noP(p)) return UNKNOWN;
            List<Integer> r = new ArrayList<>(desk);
            int shift = 0, from = 0, sum = 0;
            for (H h : patches.get(p)) {
                boolean went = false;
                for (int size = 0; size < 600 && !went; size++) {
                    for (int d : new int[] {-size, size}) {
                        int at = h.at + shift + d;
                        if (!went && at >= from && stands(r, h, at)) {
                            went = true;
                            r.subList(at, at + h.goes.size()).clear();
                            r.addAll(at, h.comes);
                            sum += size;
                            shift += d + h.comes.size() - h.goes.size();
                            from = at + h.comes.size() + 1;
                        }
                    }
                }
                if (!went) return STATE;
            }
            if (r.size() > 14) return FULL;
            desk = r;
            return sum;
        }
        static List<H> turned(List<H> p) {
            List<H> r = new ArrayList<>();
            int shift = 0;
            for (H h : p) {
                r.add(new H(h.at + shift, h.comes, h.goes));
                shift += h.comes.size() - h.goes.size();
            }
            return r;
        }
        int turn(int p) { return noP(p) ? UNKNOWN : add(turned(patches.get(p))); }
        static boolean touch(H a, H b) { return a.at <= b.end() && b.at <= a.end(); }

        int together(int p, int q) {
            if (noP(p) || noP(q)) return UNKNOWN;
            List<H> back = turned(patches.get(p)), on = patches.get(q);
            // The row between, its unknown lines named by numbers of their own.
            int[] between = new int[2000];
            for (int i = 0; i < between.length; i++) between[i] = 1000 + i;
            for (H h : back) for (int k = 0; k < h.goes.size(); k++) between[h.at + k] = h.goes.get(k);
            for (H h : on) {
                for (int k = 0; k < h.goes.size(); k++) {
                    int was = between[h.at + k];
                    if (was < 1000 && was != h.goes.get(k)) return OUTSIDE;
                    between[h.at + k] = h.goes.get(k);
                }
            }
            List<H> all = new ArrayList<>(back);
            all.addAll(on);
            int[] group = new int[all.size()];
            for (int i = 0; i < group.length; i++) group[i] = i;
            for (int round = 0; round < group.length; round++) {
                for (int i = 0; i < group.length; i++) {
                    for (int j = 0; j < group.length; j++) {
                        if (touch(all.get(i), all.get(j))) group[i] = group[j] = Math.min(group[i], group[j]);
                    }
                }
            }
            List<H> made = new ArrayList<>();
            for (int g = 0; g < group.length; g++) {
                int low = 9999, high = -1;
                List<H> mine = new ArrayList<>(), his = new ArrayList<>();
                for (int i = 0; i < group.length; i++) {
                    if (group[i] == g) {
                        low = Math.min(low, all.get(i).at);
                        high = Math.max(high, all.get(i).end());
                        (i < back.size() ? mine : his).add(all.get(i));
                    }
                }
                if (high < 0) continue;
                List<Integer> stretch = new ArrayList<>();
                for (int i = low; i < high; i++) stretch.add(between[i]);
                int shift = 0;
                for (H h : back) if (h.at < low) shift += h.comes.size() - h.goes.size();
                List<Integer> ahead = laid(stretch, moved(mine, -low)), behind = laid(stretch, moved(his, -low));
                if (!ahead.equals(behind)) made.add(new H(low + shift, ahead, behind));
            }
            made.sort((a, b) -> a.at - b.at);
            if (made.size() > 10 || goes(made) > 28 || comes(made) > 28) return FULL;
            return add(made);
        }
        static List<H> moved(List<H> p, int by) {
            List<H> r = new ArrayList<>();
            for (H h : p) r.add(new H(h.at + by, h.goes, h.comes));
            return r;
        }
        int swap(int p, int q) {
            if (noP(p) || noP(q)) return UNKNOWN;
            List<H> first = patches.get(p), back = turned(first), on = patches.get(q);
            for (H a : back) for (H b : on) if (touch(a, b)) return STATE;
            if (patches.size() > 10) return FULL;
            List<H> q2 = new ArrayList<>(), p2 = new ArrayList<>();
            for (H b : on) {
                int shift = 0;
                for (H a : back) if (a.at < b.at) shift += a.comes.size() - a.goes.size();
                q2.add(new H(b.at + shift, b.goes, b.comes));
            }
            for (int i = 0; i < first.size(); i++) {
                int shift = 0;
                for (H b : on) if (b.at < back.get(i).at) shift += b.comes.size() - b.goes.size();
                p2.add(new H(first.get(i).at + shift, first.get(i).goes, first.get(i).comes));
            }
            checkSwap(first, on, q2, p2);
            patches.add(q2);
            return add(p2) - 1;
        }
        /** Both ways lead from one row to the same one. */
        private static void checkSwap(List<H> p, List<H> q, List<H> q2, List<H> p2) {
            List<Integer> row = new ArrayList<>();
            for (int i = 0; i < 400; i++) row.add(1000 + i);
            for (H h : p) for (int k = 0; k < h.goes.size(); k++) row.set(h.at + k, h.goes.get(k));
            if (!laid(laid(row, p), q).equals(laid(laid(row, q2), p2))) throw new IllegalStateException("the model swaps wrongly");
        }
        int clash(int b, int x, int y) {
            if (noV(b) || noV(x) || noV(y)) return UNKNOWN;
            int n = 0;
            List<H> other = hunks(b, y);
            for (H h : hunks(b, x)) {
                if (!other.contains(h) && other.stream().anyMatch(o -> touch(h, o))) n++;
            }
            return n;
        }
        int join(int b, int x, int y) {
            int n = clash(b, x, y);
            if (n != 0) return n < 0 ? n : STATE;
            List<H> all = hunks(b, x);
            for (H h : hunks(b, y)) if (!all.contains(h)) all.add(h);
            Collections.sort(all, (c, d) -> c.at - d.at);
            List<Integer> r = laid(versions.get(b).row, all);
            if (r.size() > 14) return FULL;
            desk = r;
            return r.size();
        }
        int brought(int v, int i) {
            if (noV(v) || i < 0 || i >= versions.get(v).row.size()) return UNKNOWN;
            for (int parent : new int[] {versions.get(v).p, versions.get(v).q}) {
                if (parent == NONE) continue;
                int[] mates = mates(parent, v);
                for (int k = 0; k < mates.length; k++) if (mates[k] == i) return brought(parent, k);
            }
            return v;
        }
        int share(int v, int by) {
            if (noV(v) || noV(by)) return UNKNOWN;
            int n = 0;
            for (int i = 0; i < versions.get(v).row.size(); i++) if (brought(v, i) == by) n++;
            return n;
        }

        int piece(int i, int from) { return from == NONE ? versions.get(i).row.size() + 1 : room(hunks(from, i)); }
        int[] remade(int[] from, int[][] pieces) {
            int[] r = new int[from.length];
            for (int i = 0; i < from.length; i++) {
                int on = i, steps = 0;
                while (on != NONE && steps++ <= from.length) {
                    r[i] += pieces[on][from[on] + 1];
                    on = from[on];
                }
                if (on != NONE) return null;
            }
            return r;
        }
        /** Sources of the least store, or null. */
        int[] least(int n, int bound) {
            int[][] pieces = new int[n][n + 1];
            for (int i = 0; i < n; i++) for (int j = -1; j < n; j++) pieces[i][j + 1] = piece(i, j);
            int[] from = new int[n], best = null;
            Arrays.fill(from, NONE);
            long bestRoom = 0, bestSum = 0;
            while (true) {
                int[] r = remade(from, pieces);
                if (r != null) {
                    long room = 0, sum = 0;
                    boolean within = true;
                    for (int i = 0; i < n; i++) {
                        room += pieces[i][from[i] + 1];
                        sum += (long) versions.get(i).asked * r[i];
                        within &= r[i] <= bound;
                    }
                    if (within && (best == null || room < bestRoom || room == bestRoom && sum < bestSum)) {
                        best = from.clone();
                        bestRoom = room;
                        bestSum = sum;
                    }
                }
                int k = n - 1;
                while (k >= 0 && ++from[k] == n) from[k--] = NONE;
                if (k < 0) return best;
            }
        }
        boolean badStore(int n, int bound) { return n < 1 || n > 6 || n > versions.size() || bound < 1 || bound > 999; }
        int[] remadeOf(int[] from) {
            int n = from.length;
            int[][] pieces = new int[n][n + 1];
            for (int i = 0; i < n; i++) for (int j = -1; j < n; j++) pieces[i][j + 1] = piece(i, j);
            return remade(from, pieces);
        }
        int store(int n, int bound, int what) {
            boolean good = what == 0 || what == 1 || what >= 10 && what <= 15 || what >= 20 && what <= 25;
            if (badStore(n, bound) || !good) return OUTSIDE;
            if (done == 30) return STATE;
            done++;
            int[] from = least(n, bound);
            if (what < 2 && from == null) return NONE;
            if (what >= 10 && (from == null || what % 10 >= n)) return -2;
            int[] r = remadeOf(from);
            if (what >= 20) return r[what - 20];
            if (what >= 10) return from[what - 10];
            int room = 0, sum = 0;
            for (int i = 0; i < n; i++) {
                room += piece(i, from[i]);
                sum += versions.get(i).asked * r[i];
            }
            return what == 0 ? room : sum;
        }
        int lost(int[] from, int torn) {
            int sum = 0;
            for (int i = 0; i < from.length; i++) {
                boolean by = false;
                for (int on = i; on != NONE; on = from[on]) by |= on == torn;
                if (by) sum += versions.get(i).asked;
            }
            return sum;
        }
        int worst(int n, int bound, int what) {
            if (badStore(n, bound) || what < 0 || what > 1) return OUTSIDE;
            if (done == 30) return STATE;
            done++;
            int[] from = least(n, bound);
            if (from == null) return NONE;
            int worst = 0;
            for (int i = 1; i < n; i++) if (lost(from, i) > lost(from, worst)) worst = i;
            return what == 0 ? worst : lost(from, worst);
        }
        int saved(int n, int bound, int r, int what) {
            if (badStore(n, bound) || r < 0 || r > 99 || what < 0 || what > 1) return OUTSIDE;
            if (done == 30) return STATE;
            done++;
            int[] from = least(n, bound);
            if (from == null) return NONE;
            int[] best = null;
            for (int i = 0; i < n; i++) {
                int worst = 0;
                for (int j = 0; j < n; j++) if (j != i) worst = Math.max(worst, lost(from, j));
                int[] now = {worst, piece(i, from[i]), i};
                if (now[1] <= r && (best == null || Arrays.compare(now, best) < 0)) best = now;
            }
            return best == null ? NONE : what == 0 ? best[2] : best[0];
        }
        int count(int what) {
            return what < 0 || what > 3 ? OUTSIDE : new int[] {versions.size(), desk.size(), patches.size(), done}[what];
        }
        long digest() {
            List<Integer> all = new ArrayList<>(desk);
            for (int v = 0; v < versions.size(); v++) {
                for (int what = 0; what <= 4; what++) all.add(about(v, what));
                all.addAll(versions.get(v).row);
            }
            for (int p = 0; p < patches.size(); p++) {
                for (int what = 0; what <= 3; what++) all.add(of(p, what));
                for (H h : patches.get(p)) {
                    all.addAll(List.of(h.at, h.goes.size(), h.comes.size()));
                    all.addAll(h.goes);
                    all.addAll(h.comes);
                }
            }
            for (int u = 0; u < versions.size(); u++) {
                for (int v = 0; v < versions.size(); v++) if (u != v) all.add(differ(u, v, 4));
            }
            for (int what = 0; what <= 3; what++) all.add(count(what));
            long h = 271;
            for (int n : all) h = 31 * h + n;
            return h;
        }
    }
}
