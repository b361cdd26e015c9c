import java.util.ArrayList;
import java.util.List;
import java.util.regex.Pattern;

/**
 * The document once more, slow and word by word: all drawings, all rows, all paths are looked at.
 * It shares no code with the class, so that a slip in one of them shows.
 */
final class PlainModel {
    private static final int NONE = -6, UNKNOWN = -1, OUTSIDE = -2, STATE = -3, FULL = -4, NO = -5;
    private static final Pattern LINES = Pattern.compile("[0-3*][0-3*]=[0-9][0-9]?(;[0-3*][0-3*]=[0-9][0-9]?)*");

    private static final class Kept {
        // drawing, least year, greatest year, width
        List<int[]> pictures = new ArrayList<>();
        String law = "";
        int[] set = {20, 99, 10, 10};
        int[][] spans = {{10, 10}, {1, 1}};
        int[][] hides = new int[2][8];

        Kept copy() {
            Kept k = new Kept();
            for (int[] p : pictures) {
                k.pictures.add(p.clone());
            }
            k.law = law;
            k.set = set.clone();
            k.spans = new int[][] {spans[0].clone(), spans[1].clone()};
            k.hides = new int[][] {hides[0].clone(), hides[1].clone()};
            return k;
        }
    }

    private Kept now = new Kept();
    private final Kept[] images = new Kept[2];
    private String signs = "";
    private final List<Integer> sick = new ArrayList<>();
    private final List<int[]> meetings = new ArrayList<>();

    PlainModel() {
        for (int s = 0; s < 8; s++) {
            now.hides[0][s] = 1 << s;
            now.hides[1][s] = 1 << s;
        }
    }

    private static boolean in(int v, int low, int high) {
        return low <= v && v <= high;
    }

    private boolean noPicture(int p) {
        return !in(p, 0, now.pictures.size() - 1);
    }

    private boolean noMan(int m) {
        return !in(m, 0, sick.size() - 1);
    }

    private static int stroke(int drawing, int s) {
        int d = drawing;
        for (int i = 7; i > s; i--) {
            d /= 4;
        }
        return d % 4;
    }

    // ---- 1

    int picture(int drawing, int least, int greatest) {
        if (!in(drawing, 0, 65535) || !in(least, 0, 99) || !in(greatest, 0, 99) || least > greatest) return OUTSIDE;
        if (now.pictures.size() == 6) return FULL;
        now.pictures.add(new int[] {drawing, least, greatest, NONE});
        return now.pictures.size() - 1;
    }

    int about(int picture, int what) {
        if (noPicture(picture)) return UNKNOWN;
        if (!in(what, 0, 3)) return OUTSIDE;
        return now.pictures.get(picture)[what];
    }

    int set(int which, int v) {
        if (!in(which, 0, 3)) return OUTSIDE;
        if (which < 2 ? !in(v, 0, 99) : !in(v, 1, 30)) return OUTSIDE;
        int was = now.set[which];
        now.set[which] = v;
        return was;
    }

    int say(int sign) {
        if (!in(sign, 33, 126)) return OUTSIDE;
        if (signs.length() == 50) return FULL;
        signs += (char) sign;
        return signs.length();
    }

    int wipe() {
        int n = signs.length();
        signs = "";
        return n;
    }

    /** Whether some text that is a law begins so: a sign can stand at its place just then. */
    private static boolean canGoOn(String begun) {
        String[] ends = {"", "=0", "0=0", "00=0", "0"};
        for (String end : ends) {
            if (LINES.matcher(begun + end).matches()) return true;
        }
        return false;
    }

    int fault() {
        for (int i = 0; i < signs.length(); i++) {
            if (!canGoOn(signs.substring(0, i + 1))) return i;
        }
        return LINES.matcher(signs).matches() ? NONE : signs.length();
    }

    int law() {
        if (!LINES.matcher(signs).matches()) return NO;
        now.law = signs;
        signs = "";
        return lines();
    }

    private int lines() {
        return now.law.isEmpty() ? 0 : now.law.split(";").length;
    }

    int slip(int from, int to) {
        if (!in(from, 0, 3) || !in(to, 0, 3)) return OUTSIDE;
        if (from == to) return 0;
        if (now.law.isEmpty()) return 10;
        for (String line : now.law.split(";")) {
            boolean a = line.charAt(0) == '*' || line.charAt(0) == '0' + from;
            boolean b = line.charAt(1) == '*' || line.charAt(1) == '0' + to;
            if (a && b) return Integer.parseInt(line.substring(3));
        }
        return 10;
    }

    int cost(int from, int to) {
        if (!in(from, 0, 65535) || !in(to, 0, 65535)) return OUTSIDE;
        return costBy(table(), from, to);
    }

    private int[][] table() {
        int[][] t = new int[4][4];
        for (int a = 0; a < 4; a++) {
            for (int b = 0; b < 4; b++) {
                t[a][b] = slip(a, b);
            }
        }
        return t;
    }

    private static int costBy(int[][] table, int from, int to) {
        int sum = 0;
        for (int s = 0; s < 8; s++) {
            sum += table[stroke(from, s)][stroke(to, s)];
        }
        return sum;
    }

    // ---- 2

    /** All trees as rows with their cost behind them, in order: each row of digits is tried. */
    private List<int[]> trees() {
        int n = now.pictures.size();
        int[][] table = table();
        int rows = 1;
        for (int i = 0; i < n; i++) {
            rows *= n + 1;
        }
        List<int[]> found = new ArrayList<>();
        for (int code = 0; code < rows; code++) {
            int[] row = new int[n + 1];
            int rest = code;
            for (int p = n - 1; p >= 0; p--) {
                row[p] = rest % (n + 1) == n ? 9 : rest % (n + 1);
                rest /= n + 1;
            }
            if (isTree(row, n)) {
                for (int p = 0; p < n; p++) {
                    row[n] += row[p] == 9 ? now.set[0]
                            : costBy(table, now.pictures.get(row[p])[0], now.pictures.get(p)[0]);
                }
                found.add(row);
            }
        }
        return found;
    }

    private boolean isTree(int[] row, int n) {
        for (int p = 0; p < n; p++) {
            if (row[p] != 9 && now.pictures.get(row[p])[1] > now.pictures.get(p)[2]) return false;
            int at = p;
            for (int step = 0; step <= n && at != 9; step++) {
                at = row[at];
                if (at == p) return false;
            }
        }
        return true;
    }

    private List<int[]> keptTrees(int more) {
        List<int[]> all = trees();
        int n = now.pictures.size();
        int least = Integer.MAX_VALUE;
        for (int[] row : all) {
            least = Math.min(least, row[n]);
        }
        List<int[]> found = new ArrayList<>();
        for (int[] row : all) {
            if (row[n] <= least + more) found.add(row);
        }
        return found;
    }

    int least(int what) {
        if (!in(what, 0, 2)) return OUTSIDE;
        if (now.pictures.isEmpty()) return STATE;
        if (what == 2) return trees().size();
        return what == 1 ? keptTrees(0).size() : keptTrees(0).get(0)[now.pictures.size()];
    }

    int kept(int more, int i, int picture) {
        if (i != -1 && picture != 9 && noPicture(picture)) return UNKNOWN;
        if (!in(more, 0, 99)) return OUTSIDE;
        if (now.pictures.isEmpty()) return STATE;
        List<int[]> rows = keptTrees(more);
        if (i == -1) return rows.size();
        if (!in(i, 0, rows.size() - 1)) return NONE;
        return rows.get(i)[picture == 9 ? now.pictures.size() : picture];
    }

    int sure(int more, int picture) {
        if (picture != 9 && noPicture(picture)) return UNKNOWN;
        if (!in(more, 0, 99)) return OUTSIDE;
        if (now.pictures.isEmpty()) return STATE;
        List<int[]> rows = keptTrees(more);
        int bits = 0;
        for (int p = 0; p < now.pictures.size(); p++) {
            boolean all = true;
            for (int[] row : rows) {
                all = all && row[p] == picture;
            }
            if (all) bits += 1 << p;
        }
        return bits;
    }

    int lost(int picture, int others, int what) {
        int n = now.pictures.size();
        if (picture != -1 && noPicture(picture)) return UNKNOWN;
        if (!in(others, 0, (1 << n) - 1)) return UNKNOWN;
        if (others == 0 || picture >= 0 && (others & 1 << picture) != 0 || !in(what, 0, 2)) return OUTSIDE;
        int[][] table = table();
        int best = -1;
        int bestCost = Integer.MAX_VALUE;
        for (int d = 0; d < 65536; d++) {
            int cost = picture == -1 ? now.set[0] : costBy(table, now.pictures.get(picture)[0], d);
            for (int p = 0; p < n && cost < bestCost; p++) {
                if ((others & 1 << p) != 0) cost += costBy(table, d, now.pictures.get(p)[0]);
            }
            if (cost < bestCost) {
                best = d;
                bestCost = cost;
            }
        }
        int straight = 0;
        for (int p = 0; p < n; p++) {
            if ((others & 1 << p) != 0) {
                straight += picture == -1 ? now.set[0]
                        : costBy(table, now.pictures.get(picture)[0], now.pictures.get(p)[0]);
            }
        }
        return what == 0 ? best : what == 1 ? bestCost : 10000 + straight - bestCost;
    }

    // ---- 3

    int width(int picture, int v) {
        if (noPicture(picture)) return UNKNOWN;
        if (!in(v, 0, 999)) return OUTSIDE;
        int was = now.pictures.get(picture)[3];
        now.pictures.get(picture)[3] = v == 0 ? NONE : v;
        return was;
    }

    int spread(int which, int least, int greatest) {
        if (!in(which, 0, 1) || !in(least, 1, 99) || !in(greatest, 1, 99) || least > greatest) return OUTSIDE;
        int was = now.spans[which][0] * 100 + now.spans[which][1];
        now.spans[which] = new int[] {least, greatest};
        return was;
    }

    private List<Integer> agedYears(int width) {
        List<Integer> years = new ArrayList<>();
        for (int year = 0; year <= now.set[1]; year++) {
            boolean may = false;
            for (int first = now.spans[0][0]; first <= now.spans[0][1]; first++) {
                for (int spread = now.spans[1][0]; spread <= now.spans[1][1]; spread++) {
                    may = may || first + spread * (now.set[1] - year) == width;
                }
            }
            if (may) years.add(year);
        }
        return years;
    }

    int aged(int picture, int what) {
        if (noPicture(picture)) return UNKNOWN;
        if (!in(what, 0, 2)) return OUTSIDE;
        int width = now.pictures.get(picture)[3];
        if (width == NONE) return STATE;
        List<Integer> years = agedYears(width);
        if (years.isEmpty()) return NO;
        return what == 0 ? years.get(0) : what == 1 ? years.get(years.size() - 1) : years.size();
    }

    int take(int picture) {
        if (noPicture(picture)) return UNKNOWN;
        int[] p = now.pictures.get(picture);
        if (p[3] == NONE) return STATE;
        List<Integer> years = agedYears(p[3]);
        if (years.isEmpty()) return NO;
        List<Integer> left = new ArrayList<>();
        for (int y = years.get(0); y <= years.get(years.size() - 1); y++) {
            if (in(y, p[1], p[2])) left.add(y);
        }
        if (left.isEmpty()) return NO;
        p[1] = left.get(0);
        p[2] = left.get(left.size() - 1);
        return left.size();
    }

    // ---- 4

    int hide(int stroke, boolean thick, int strokes) {
        if (!in(stroke, 0, 7)) return UNKNOWN;
        if (!in(strokes, 0, 255)) return OUTSIDE;
        int was = now.hides[thick ? 1 : 0][stroke];
        now.hides[thick ? 1 : 0][stroke] = strokes;
        return was;
    }

    int hides(int drawing, int what) {
        if (!in(drawing, 0, 65535) || !in(what, 0, 1)) return OUTSIDE;
        int bits = 0;
        int ink = 0;
        for (int s = 0; s < 8; s++) {
            int kind = stroke(drawing, s);
            if (kind == 1 || kind == 2) {
                bits |= now.hides[0][s];
                ink += 1;
            }
            if (kind == 3) {
                bits |= now.hides[1][s];
                ink += 2;
            }
        }
        return what == 0 ? bits : ink;
    }

    int cover(int drawing) {
        if (!in(drawing, 0, 65535)) return OUTSIDE;
        int best = NONE;
        for (int d = 0; d < 65536; d++) {
            int hidden = hides(d, 0);
            boolean all = true;
            for (int s = 0; s < 8; s++) {
                all = all && (stroke(drawing, s) == 0 || (hidden & 1 << s) != 0);
            }
            if (all && (best == NONE || hides(d, 1) < hides(best, 1))) best = d;
        }
        return best;
    }

    int under(int drawing) {
        if (!in(drawing, 0, 65535)) return OUTSIDE;
        int bits = 0;
        for (int p = 0; p < now.pictures.size(); p++) {
            boolean may = true;
            for (int s = 0; s < 8; s++) {
                int kind = stroke(now.pictures.get(p)[0], s);
                boolean shows = kind != 0 && (hides(drawing, 0) & 1 << s) == 0;
                may = may && (!shows || stroke(drawing, s) == kind);
            }
            if (may) bits += 1 << p;
        }
        return bits;
    }

    // ---- 5

    int man() {
        if (sick.size() == 8) return FULL;
        sick.add(NONE);
        return sick.size() - 1;
    }

    int meet(int man, int day) {
        if (noMan(man)) return UNKNOWN;
        if (!in(day, 0, 99)) return OUTSIDE;
        if (!meetings.isEmpty() && day < meetings.get(meetings.size() - 1)[1]) return OUTSIDE;
        if (meetings.size() == 16) return FULL;
        meetings.add(new int[] {man, day});
        return meetings.size() - 1;
    }

    int sick(int man, int day) {
        if (noMan(man)) return UNKNOWN;
        if (!in(day, -1, 99)) return OUTSIDE;
        return sick.set(man, day == -1 ? NONE : day);
    }

    private boolean mayHaveFrom(int man, int giver) {
        if (man == giver || sick.get(man) == NONE || sick.get(giver) == NONE) return false;
        for (int k = 1; k < meetings.size(); k++) {
            int day = meetings.get(k)[1];
            if (meetings.get(k)[0] != man || meetings.get(k - 1)[0] != giver) continue;
            for (int wait = 1; wait <= now.set[2]; wait++) {
                if (day != sick.get(man) - wait) continue;
                for (int had = sick.get(giver) - now.set[2]; had <= sick.get(giver) - 1; had++) {
                    for (int gives = had; gives < had + now.set[3]; gives++) {
                        if (gives == day) return true;
                    }
                }
            }
        }
        return false;
    }

    int from(int man) {
        if (noMan(man)) return UNKNOWN;
        int bits = 0;
        for (int g = 0; g < sick.size(); g++) {
            if (mayHaveFrom(man, g)) bits += 1 << g;
        }
        return bits;
    }

    int firsts(int what) {
        if (!in(what, 0, 1)) return OUTSIDE;
        int bits = 0;
        for (int m = 0; m < sick.size(); m++) {
            if (sick.get(m) != NONE && (what == 1 || from(m) == 0)) bits += 1 << m;
        }
        return bits;
    }

    int must(int man, int what) {
        if (noMan(man)) return UNKNOWN;
        if (!in(what, 0, 1)) return OUTSIDE;
        List<Integer> paths = new ArrayList<>();
        int[] givers = new int[sick.size()];
        for (int m = 0; m < sick.size(); m++) {
            givers[m] = from(m);
        }
        if (sick.get(man) != NONE) allPaths(givers, firsts(0), man, 1 << man, paths);
        int all = paths.isEmpty() ? 0 : 255;
        int shortest = paths.isEmpty() ? 0 : 8;
        for (int path : paths) {
            all &= path;
            shortest = Math.min(shortest, Integer.bitCount(path));
        }
        return what == 0 ? all : shortest;
    }

    /** Backwards from a man: each path is put down as the bits of its men. */
    private void allPaths(int[] givers, int firsts, int at, int been, List<Integer> paths) {
        if ((firsts & 1 << at) != 0) paths.add(been);
        for (int g = 0; g < givers.length; g++) {
            if ((givers[at] & 1 << g) != 0 && (been & 1 << g) == 0) {
                allPaths(givers, firsts, g, been | 1 << g, paths);
            }
        }
    }

    int image(int n) {
        if (!in(n, 0, 1)) return OUTSIDE;
        images[n] = now.copy();
        return 1;
    }

    int restore(int n) {
        if (!in(n, 0, 1)) return OUTSIDE;
        if (images[n] == null) return STATE;
        now = images[n].copy();
        return 1;
    }

    int told(int what) {
        if (!in(what, 0, 8)) return OUTSIDE;
        if (what >= 5) return now.set[what - 5];
        int[] counts = {now.pictures.size(), signs.length(), lines(), sick.size(), meetings.size()};
        return counts[what];
    }
}
