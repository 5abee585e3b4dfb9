import java.util.ArrayList;
import java.util.HashMap;
import java.util.HashSet;
import java.util.List;
import java.util.Map;
import java.util.Set;
import java.util.TreeSet;

/** The document once more, written as plainly and as differently as can be: what FirstComer is measured against. */
final class Model {
    interface Condition {
        int of(Map<String, Integer> facts);
    }

    static final class Fault extends RuntimeException {
        final int code;

        Fault(int kind, int place) {
            code = kind + 16 * place;
        }
    }

    static final class Token {
        String text = "";
        int place;
        boolean none;

        boolean is(String wanted) {
            return !none && text.equals(wanted);
        }

        boolean isNumber() {
            return !none && !text.isEmpty() && Character.isDigit(text.charAt(0));
        }
    }

    static final class Line {
        boolean first;
        boolean maybe;
        String who = "";
        Set<String> forms = new HashSet<>();
        int within;
        Condition when;
    }

    static final class LawText {
        List<Line> lines = new ArrayList<>();
        String price = "told";
        String parts = "heads";

        int number(boolean maybe) {
            int n = 0;
            for (Line line : lines) {
                if (line.maybe == maybe) {
                    n++;
                }
            }
            return n;
        }

        List<Line> inForce(int set) {
            List<Line> in = new ArrayList<>();
            int maybes = 0;
            for (Line line : lines) {
                if (!line.maybe) {
                    in.add(line);
                } else if ((set >> maybes++ & 1) == 1) {
                    in.add(line);
                }
            }
            return in;
        }
    }

    /** A recursive reader that throws its fault at the token where it stands. */
    static final class Parser {
        static final List<String> FACTS = List.of("n", "price", "paid", "keeps", "estate", "has", "sale", "gift", "swap", "need", "holds", "owns", "degree", "day");
        static final List<String> FORMS = List.of("sale", "gift", "swap");
        static final List<String> WHOS = List.of("kin", "share", "side", "water");
        final List<Token> tokens = new ArrayList<>();
        int at = 0;

        Parser(String text) {
            int i = 0;
            while (i < text.length()) {
                char c = text.charAt(i);
                if (c == ' ' || c == '\n') {
                    i++;
                    continue;
                }
                Token t = new Token();
                t.place = i;
                int j = i + 1;
                if (c >= 'a' && c <= 'z') {
                    while (j < text.length() && text.charAt(j) >= 'a' && text.charAt(j) <= 'z') {
                        j++;
                    }
                    t.none = j - i > 8;
                } else if (c >= '0' && c <= '9') {
                    while (j < text.length() && text.charAt(j) >= '0' && text.charAt(j) <= '9') {
                        j++;
                    }
                    t.none = j - i > 4;
                } else {
                    t.none = "()<=+-*;".indexOf(c) < 0;
                }
                t.text = text.substring(i, j);
                tokens.add(t);
                i = j;
            }
            Token end = new Token();
            end.place = text.length();
            end.none = true;
            tokens.add(end);
        }

        Token now() {
            return tokens.get(at);
        }

        boolean atEnd() {
            return at == tokens.size() - 1;
        }

        boolean sees(String text) {
            return now().is(text);
        }

        Fault fault(int kind) {
            return new Fault(kind, now().place);
        }

        void take(String text) {
            if (!sees(text)) {
                throw fault(1);
            }
            at++;
        }

        String takeOneOf(List<String> list) {
            if (now().none || !list.contains(now().text)) {
                throw fault(1);
            }
            return tokens.get(at++).text;
        }

        LawText law() {
            LawText law = new LawText();
            boolean price = false;
            boolean parts = false;
            while (!atEnd()) {
                if (sees("price")) {
                    if (price) {
                        throw fault(3);
                    }
                    price = true;
                    at++;
                    law.price = takeOneOf(List.of("paid", "told"));
                } else if (sees("parts")) {
                    if (parts) {
                        throw fault(3);
                    }
                    parts = true;
                    at++;
                    law.parts = takeOneOf(List.of("heads", "shares"));
                } else {
                    law.lines.add(line(law));
                }
                take(";");
            }
            return law;
        }

        Line line(LawText law) {
            Line line = new Line();
            if (sees("maybe")) {
                if (law.number(true) == 6) {
                    throw fault(5);
                }
                line.maybe = true;
                at++;
            }
            if (!sees("first") && !sees("free")) {
                throw fault(1);
            }
            if (!line.maybe && law.number(false) == 12) {
                throw fault(5);
            }
            line.first = sees("first");
            at++;
            if (!line.first) {
                take("when");
                line.when = expression(0);
                return line;
            }
            line.who = takeOneOf(WHOS);
            take("on");
            line.forms.add(takeOneOf(FORMS));
            while (!sees("within")) {
                if (!now().none && line.forms.contains(now().text)) {
                    throw fault(3);
                }
                line.forms.add(takeOneOf(FORMS));
            }
            at++;
            if (!now().isNumber()) {
                throw fault(1);
            }
            line.within = Integer.parseInt(now().text);
            if (line.within > 999) {
                throw fault(4);
            }
            at++;
            if (sees("when")) {
                at++;
                line.when = expression(0);
            }
            return line;
        }

        static int bool(boolean b) {
            return b ? 1 : 0;
        }

        Condition expression(int within) {
            Condition left = test(within);
            while (sees("and") || sees("or")) {
                boolean and = sees("and");
                at++;
                Condition a = left;
                Condition b = test(within);
                left = and ? f -> bool(a.of(f) != 0 && b.of(f) != 0) : f -> bool(a.of(f) != 0 || b.of(f) != 0);
            }
            return left;
        }

        Condition test(int within) {
            Condition a = sum(within);
            if (sees("<")) {
                at++;
                Condition b = sum(within);
                return f -> bool(a.of(f) < b.of(f));
            }
            if (sees("=")) {
                at++;
                Condition b = sum(within);
                return f -> bool(a.of(f) == b.of(f));
            }
            return a;
        }

        Condition sum(int within) {
            Condition left = product(within);
            while (sees("+") || sees("-")) {
                int sign = sees("+") ? 1 : -1;
                at++;
                Condition a = left;
                Condition b = product(within);
                left = f -> a.of(f) + sign * b.of(f);
            }
            return left;
        }

        Condition product(int within) {
            Condition left = piece(within);
            while (sees("*")) {
                at++;
                Condition a = left;
                Condition b = piece(within);
                left = f -> a.of(f) * b.of(f);
            }
            return left;
        }

        Condition piece(int within) {
            boolean fact = !now().none && FACTS.contains(now().text);
            if (!fact && !now().isNumber() && !sees("not") && !sees("(")) {
                throw fault(1);
            }
            if (within == 5) {
                throw fault(5);
            }
            String text = now().text;
            at++;
            if (fact) {
                return f -> f.get(text);
            }
            if (text.equals("not")) {
                Condition a = piece(within + 1);
                return f -> bool(a.of(f) == 0);
            }
            if (text.equals("(")) {
                Condition a = expression(within + 1);
                take(")");
                return a;
            }
            int number = Integer.parseInt(text);
            return f -> number;
        }
    }

    static final class Pass {
        int parcel;
        int from;
        int to;
        int n;
        int form;
        int price;
        int paid;
        int day;
        boolean free;
        int buyerRank = -1;
        String priceBy;
        String partsBy;
        Map<Integer, Integer> rank = new HashMap<>();
        Map<Integer, Line> by = new HashMap<>();
        Map<Integer, Integer> share = new HashMap<>();
        Map<Integer, Integer> heard = new HashMap<>();
        Set<Integer> waived = new HashSet<>();
        int taker = -1;

        Pass copy() {
            Pass p = new Pass();
            p.parcel = parcel;
            p.from = from;
            p.to = to;
            p.n = n;
            p.form = form;
            p.price = price;
            p.paid = paid;
            p.day = day;
            p.free = free;
            p.buyerRank = buyerRank;
            p.priceBy = priceBy;
            p.partsBy = partsBy;
            p.rank = rank;
            p.by = by;
            p.share = share;
            p.heard = new HashMap<>(heard);
            p.waived = new HashSet<>(waived);
            p.taker = taker;
            return p;
        }

        boolean late(int person, int now) {
            return heard.containsKey(person) && now > heard.get(person) + by.get(person).within;
        }

        int asked() {
            return priceBy.equals("paid") ? paid : price;
        }
    }

    static final class Kept {
        int[][] held;
        boolean[] told;
        int now;
        List<Pass> passings;
    }

    int[][] held = new int[12][16];
    final boolean[] told = new boolean[12];
    final Set<String> sides = new HashSet<>();
    final Set<String> waters = new HashSet<>();
    final int[][] degree = new int[16][16];
    final boolean[] needs = new boolean[16];
    final boolean[] cares = new boolean[16];
    int now = 0;
    final StringBuilder tape = new StringBuilder();
    LawText law = new LawText();
    List<Pass> passings = new ArrayList<>();
    final List<Pass> honests = new ArrayList<>();
    // In the order in which they were laid; the same key is laid anew at the end.
    final Map<Integer, Kept> marks = new java.util.LinkedHashMap<>();

    Model() {
        java.util.Arrays.fill(cares, true);
    }

    static boolean person(int... people) {
        for (int p : people) {
            if (p < 0 || p > 15) {
                return false;
            }
        }
        return true;
    }

    boolean known(int parcel) {
        return parcel >= 0 && parcel < 12 && told[parcel];
    }

    boolean parcel(int parcel, int owner) {
        if (parcel < 0 || parcel > 11 || !person(owner) || told[parcel]) {
            return false;
        }
        told[parcel] = true;
        held[parcel][owner] = 12;
        return true;
    }

    boolean part(int parcel, int from, int to, int n) {
        if (!known(parcel) || !person(from, to) || from == to || n < 1 || n > 12 || held[parcel][from] < n) {
            return false;
        }
        held[parcel][from] -= n;
        held[parcel][to] += n;
        return true;
    }

    boolean beside(int parcel, int other, int side) {
        if (!known(parcel) || !known(other) || parcel == other || side < 0 || side > 3) {
            return false;
        }
        boolean is = sides.add(parcel + "," + side + "," + other);
        sides.add(other + "," + (side + 2) % 4 + "," + parcel);
        return is;
    }

    boolean water(int parcel, int other) {
        if (!known(parcel) || !known(other) || parcel == other) {
            return false;
        }
        return waters.add(Math.min(parcel, other) + "," + Math.max(parcel, other));
    }

    boolean kin(int a, int b, int d) {
        if (!person(a, b) || a == b || d < 0 || d > 3) {
            return false;
        }
        degree[a][b] = d;
        degree[b][a] = d;
        return true;
    }

    boolean need(int p, boolean yes) {
        if (!person(p)) {
            return false;
        }
        needs[p] = yes;
        return true;
    }

    boolean care(int p, boolean yes) {
        if (!person(p)) {
            return false;
        }
        cares[p] = yes;
        return true;
    }

    int days(int n) {
        if (n < 0 || n > 1000 || now + n > 9999) {
            return -1;
        }
        return now += n;
    }

    int feed(long a, long b, long c) {
        for (byte x : java.nio.ByteBuffer.allocate(24).putLong(a).putLong(b).putLong(c).array()) {
            if ((x == 10 || x >= 32 && x <= 126) && tape.length() < 1000) {
                tape.append((char) x);
            }
        }
        return tape.length();
    }

    int law() {
        String text = tape.toString();
        tape.setLength(0);
        try {
            law = new Parser(text).law();
            return 0;
        } catch (Fault f) {
            return f.code;
        }
    }

    int holds(int parcel, int p) {
        return known(parcel) && person(p) ? held[parcel][p] : -1;
    }

    Set<Integer> atSides(int parcel) {
        Set<Integer> is = new HashSet<>();
        for (int s = 0; s < 4; s++) {
            for (int o = 0; o < 12; o++) {
                if (sides.contains(parcel + "," + s + "," + o)) {
                    is.add(o);
                }
            }
        }
        return is;
    }

    Set<Integer> byWater(int parcel) {
        Set<Integer> is = new HashSet<>();
        for (int o = 0; o < 12; o++) {
            if (waters.contains(Math.min(parcel, o) + "," + Math.max(parcel, o))) {
                is.add(o);
            }
        }
        return is;
    }

    static int sum(int[][] h, Set<Integer> parcels, int p) {
        int sum = 0;
        for (int q : parcels) {
            sum += h[q][p];
        }
        return sum;
    }

    boolean standsAs(int[][] h, String who, int parcel, int seller, int p) {
        switch (who) {
            case "kin":
                return degree[p][seller] > 0;
            case "share":
                return h[parcel][p] > 0;
            case "side":
                return sum(h, atSides(parcel), p) > 0;
            default:
                return sum(h, byWater(parcel), p) > 0;
        }
    }

    int stands(int parcel, int seller, int p) {
        if (!known(parcel) || !person(seller, p)) {
            return -1;
        }
        int bits = 0;
        for (int i = 0; i < 4; i++) {
            if (standsAs(held, Parser.WHOS.get(i), parcel, seller, p)) {
                bits |= 1 << i;
            }
        }
        return bits;
    }

    Map<String, Integer> facts(int[][] h, Pass x, int p) {
        Map<String, Integer> f = new HashMap<>();
        f.put("n", x.n);
        f.put("price", x.price);
        f.put("paid", x.paid);
        f.put("keeps", h[x.parcel][x.from] - x.n);
        int estate = -x.n;
        int has = 0;
        int owns = 0;
        for (int q = 0; q < 12; q++) {
            estate += h[q][x.from];
            has += h[q][x.to] > 0 ? 1 : 0;
            owns += h[q][p] > 0 ? 1 : 0;
        }
        f.put("estate", estate);
        f.put("has", has);
        f.put("sale", x.form == 0 ? 1 : 0);
        f.put("gift", x.form == 1 ? 1 : 0);
        f.put("swap", x.form == 2 ? 1 : 0);
        f.put("need", needs[p] ? 1 : 0);
        f.put("holds", h[x.parcel][p]);
        f.put("owns", owns);
        f.put("degree", degree[p][x.from]);
        f.put("day", now);
        return f;
    }

    boolean free(int[][] h, Pass x, List<Line> lines) {
        for (Line line : lines) {
            if (!line.first && line.when.of(facts(h, x, x.to)) != 0) {
                return true;
            }
        }
        return false;
    }

    /** The line by which one has his rank, or null; of ranks the number among those with first is told by rankOf. */
    Line lineOf(int[][] h, Pass x, List<Line> lines, int p) {
        if (p == x.from) {
            return null;
        }
        for (Line line : lines) {
            if (line.first && line.forms.contains(Parser.FORMS.get(x.form)) && standsAs(h, line.who, x.parcel, x.from, p)) {
                if (line.when == null || line.when.of(facts(h, x, p)) != 0) {
                    return line;
                }
            }
        }
        return null;
    }

    static int rankOf(List<Line> lines, Line wanted) {
        int rank = 0;
        for (Line line : lines) {
            if (line == wanted) {
                return rank;
            }
            rank += line.first ? 1 : 0;
        }
        return -1;
    }

    Set<Integer> comers(int[][] h, Pass x, List<Line> lines) {
        Set<Integer> may = new TreeSet<>();
        if (free(h, x, lines)) {
            return may;
        }
        int buyers = rankOf(lines, lineOf(h, x, lines, x.to));
        for (int p = 0; p < 16; p++) {
            int rank = rankOf(lines, lineOf(h, x, lines, p));
            if (p != x.to && rank >= 0 && (buyers < 0 || buyers > rank)) {
                may.add(p);
            }
        }
        return may;
    }

    Pass sound(int parcel, int from, int to, int n, int form, int price, int paid) {
        boolean good = known(parcel) && person(from, to) && from != to && n >= 1 && n <= 12 && form >= 0 && form <= 2;
        good = good && price >= 0 && price <= 9999 && paid >= 0 && paid <= 9999;
        if (!good || form == 1 && (price != 0 || paid != 0)) {
            return null;
        }
        Pass x = new Pass();
        x.parcel = parcel;
        x.from = from;
        x.to = to;
        x.n = n;
        x.form = form;
        x.price = price;
        x.paid = paid;
        return x;
    }

    int pass(int parcel, int from, int to, int n, int form, int price, int paid) {
        Pass x = sound(parcel, from, to, n, form, price, paid);
        if (x == null || held[parcel][from] < n || passings.size() == 40) {
            return -1;
        }
        List<Line> lines = law.inForce(0);
        x.day = now;
        x.free = free(held, x, lines);
        x.buyerRank = rankOf(lines, lineOf(held, x, lines, to));
        x.priceBy = law.price;
        x.partsBy = law.parts;
        for (int p : comers(held, x, lines)) {
            Line line = lineOf(held, x, lines, p);
            x.by.put(p, line);
            x.rank.put(p, rankOf(lines, line));
            int share = 1;
            if (line.who.equals("share")) {
                share = held[parcel][p];
            } else if (line.who.equals("side")) {
                share = sum(held, atSides(parcel), p);
            } else if (line.who.equals("water")) {
                share = sum(held, byWater(parcel), p);
            }
            x.share.put(p, share);
        }
        held[parcel][from] -= n;
        held[parcel][to] += n;
        passings.add(x);
        return passings.size() - 1;
    }

    int would(int parcel, int from, int to, int n, int form, int price, int paid) {
        Pass x = sound(parcel, from, to, n, form, price, paid);
        if (x == null || held[parcel][from] < n) {
            return -1;
        }
        int bits = 0;
        for (int p : comers(held, x, law.inForce(0))) {
            bits |= 1 << p;
        }
        return bits;
    }

    Pass at(int i) {
        return i >= 0 && i < passings.size() ? passings.get(i) : null;
    }

    int look(int i, int what) {
        Pass x = at(i);
        if (x == null || what < 0 || what > 11) {
            throw new java.util.NoSuchElementException();
        }
        int[] all = {x.parcel, x.from, x.to, x.n, x.form, x.price, x.paid, x.day, x.free ? 1 : 0, x.buyerRank, x.taker, x.asked()};
        return all[what];
    }

    int may(int i, int p) {
        return at(i) == null ? -1 : at(i).rank.getOrDefault(p, -1);
    }

    int order(int i, int k) {
        Pass x = at(i);
        if (x == null) {
            return -1;
        }
        List<Integer> all = new ArrayList<>(x.rank.keySet());
        all.sort((a, b) -> x.rank.get(a).equals(x.rank.get(b)) ? a - b : x.rank.get(a) - x.rank.get(b));
        return k >= 0 && k < all.size() ? all.get(k) : -1;
    }

    boolean hears(int i, int p, int day) {
        Pass x = at(i);
        if (x == null || !person(p) || day < x.day || day > now || x.heard.containsKey(p)) {
            return false;
        }
        x.heard.put(p, day);
        return true;
    }

    int till(int i, int p) {
        Pass x = at(i);
        return x == null || !x.rank.containsKey(p) || !x.heard.containsKey(p) ? -1 : x.heard.get(p) + x.by.get(p).within;
    }

    boolean waive(int i, int p) {
        Pass x = at(i);
        return x != null && x.rank.containsKey(p) && x.waived.add(p);
    }

    boolean truly(int i, int paid) {
        Pass x = at(i);
        if (x == null || paid < 0 || paid > 9999 || x.form == 1 || x.taker >= 0) {
            return false;
        }
        x.paid = paid;
        return true;
    }

    int claim(int i, int p, int coin) {
        Pass x = at(i);
        if (x == null || !person(p) || coin < 0) {
            return -1;
        }
        if (x.taker >= 0) {
            return 6;
        }
        if (!x.rank.containsKey(p) || x.waived.contains(p)) {
            return 1;
        }
        if (x.late(p, now)) {
            return 2;
        }
        for (int o : x.rank.keySet()) {
            if (x.rank.get(o) < x.rank.get(p) && !x.waived.contains(o) && !x.late(o, now)) {
                return 3;
            }
        }
        if (coin < x.asked()) {
            return 4;
        }
        if (held[x.parcel][x.to] < x.n) {
            return 5;
        }
        held[x.parcel][x.to] -= x.n;
        held[x.parcel][p] += x.n;
        x.taker = p;
        return 0;
    }

    int parted(int i, int p) {
        Pass x = at(i);
        if (x == null || !x.rank.containsKey(p)) {
            return -1;
        }
        Map<Integer, Integer> got = new java.util.TreeMap<>();
        int all = 0;
        for (int o : x.rank.keySet()) {
            if (x.rank.get(o).equals(x.rank.get(p))) {
                got.put(o, 0);
                all += x.share.get(o);
            }
        }
        int left = x.n;
        for (int o : got.keySet()) {
            int his = x.partsBy.equals("heads") ? x.n / got.size() : x.n * x.share.get(o) / all;
            got.put(o, his);
            left -= his;
        }
        while (left > 0) {
            for (int o : got.keySet()) {
                if (left > 0) {
                    got.put(o, got.get(o) + 1);
                    left--;
                }
            }
        }
        return got.get(p);
    }

    static int[][] copy(int[][] h) {
        int[][] c = new int[h.length][];
        for (int i = 0; i < h.length; i++) {
            c[i] = h[i].clone();
        }
        return c;
    }

    boolean nobody(int[][] h, int parcel, int from, int to, int n, int form, int each, int set, boolean carers) {
        int all = form == 1 ? 0 : n * each;
        for (int p : comers(h, sound(parcel, from, to, n, form, all, all), law.inForce(set))) {
            if (!carers || cares[p]) {
                return false;
            }
        }
        return true;
    }

    boolean ways(int parcel, int owner, int stranger, int each) {
        return known(parcel) && person(owner, stranger) && owner != stranger && held[parcel][owner] > 0 && each >= 0 && each <= 800;
    }

    /** The row: parcel, n, form of each step; null if there is none. */
    List<int[]> row(int parcel, int owner, int stranger, int each, int set) {
        int other = -1;
        for (int q = 11; q >= 0; q--) {
            if (q != parcel && held[q][owner] > 0) {
                other = q;
            }
        }
        Map<String, Boolean> open = new HashMap<>();
        for (int length = 1; length <= 24; length++) {
            List<int[]> row = new ArrayList<>();
            Set<String> dead = new HashSet<>();
            if (deepen(copy(held), new int[] {parcel, other, owner, stranger, each, set}, length, row, dead, open)) {
                return row;
            }
        }
        return null;
    }

    private boolean deepen(int[][] h, int[] who, int left, List<int[]> row, Set<String> dead, Map<String, Boolean> open) {
        int owner = who[2];
        int stranger = who[3];
        if (h[who[0]][owner] == 0) {
            return left == 0;
        }
        String state = h[who[0]][owner] + "," + (who[1] < 0 ? 0 : h[who[1]][owner]);
        if (left == 0 || dead.contains(state + "," + left)) {
            return false;
        }
        for (int w = 0; w < 2; w++) {
            for (int n = 1; who[w] >= 0 && n <= h[who[w]][owner]; n++) {
                for (int form = 0; form < 3; form++) {
                    String key = state + "," + w + "," + n + "," + form;
                    if (!open.containsKey(key)) {
                        open.put(key, nobody(h, who[w], owner, stranger, n, form, who[4], who[5], false));
                    }
                    if (open.get(key)) {
                        row.add(new int[] {who[w], n, form});
                        h[who[w]][owner] -= n;
                        h[who[w]][stranger] += n;
                        if (deepen(h, who, left - 1, row, dead, open)) {
                            return true;
                        }
                        h[who[w]][owner] += n;
                        h[who[w]][stranger] -= n;
                        row.remove(row.size() - 1);
                    }
                }
            }
        }
        dead.add(state + "," + left);
        return false;
    }

    int sly(int parcel, int owner, int stranger, int each) {
        List<int[]> row = ways(parcel, owner, stranger, each) ? row(parcel, owner, stranger, each, 0) : null;
        return row == null ? -1 : row.size();
    }

    int slyRow(int parcel, int owner, int stranger, int each, int i, int what) {
        List<int[]> row = ways(parcel, owner, stranger, each) ? row(parcel, owner, stranger, each, 0) : null;
        return row == null || i < 0 || i >= row.size() || what < 0 || what > 2 ? -1 : row.get(i)[what];
    }

    int far(int stranger, int years, int each, int what) {
        if (!person(stranger) || years < 1 || years > 9 || each < 0 || each > 800 || what < 0 || what > 2) {
            return -1;
        }
        int own = 0;
        for (int q = 0; q < 12; q++) {
            own |= held[q][stranger] == 12 ? 1 << q : 0;
        }
        TreeSet<Integer> level = new TreeSet<>(List.of(own));
        int year = 0;
        while (year < years) {
            TreeSet<Integer> next = new TreeSet<>();
            for (int set : level) {
                spread(stranger, each, own, set, next);
            }
            if (next.isEmpty()) {
                break;
            }
            level = next;
            year++;
        }
        return what == 0 ? Integer.bitCount(level.first()) : what == 1 ? year : level.first();
    }

    private void spread(int stranger, int each, int own, int set, TreeSet<Integer> next) {
        int[][] h = copy(held);
        for (int q = 0; q < 12; q++) {
            if ((set >> q & 1) == 1) {
                h[q] = new int[16];
                h[q][stranger] = 12;
            }
        }
        for (int q = 0; q < 12; q++) {
            for (int p = 0; p < 16; p++) {
                if (p != stranger && h[q][p] == 12) {
                    for (int form = 0; form < 3; form++) {
                        if (nobody(h, q, p, stranger, 12, form, each, 0, true)) {
                            next.add(set | 1 << q);
                        }
                    }
                }
            }
        }
    }

    boolean honest(int parcel, int from, int to, int n, int form, int price) {
        Pass x = sound(parcel, from, to, n, form, price, price);
        if (x == null || honests.size() == 6) {
            return false;
        }
        honests.add(x);
        return true;
    }

    int mended(int parcel, int owner, int stranger, int each, int what) {
        if (!ways(parcel, owner, stranger, each) || what < 0 || what > 1) {
            return -1;
        }
        int maybes = law.number(true);
        for (int size = 0; size <= maybes; size++) {
            for (int set = 0; set < 1 << maybes; set++) {
                if (Integer.bitCount(set) == size && honestly(set) && row(parcel, owner, stranger, each, set) == null) {
                    return what == 0 ? size : set;
                }
            }
        }
        return -1;
    }

    private boolean honestly(int set) {
        for (Pass x : honests) {
            if (held[x.parcel][x.from] >= x.n && !comers(held, x, law.inForce(set)).isEmpty()) {
                return false;
            }
        }
        return true;
    }

    static List<Pass> copy(List<Pass> list) {
        List<Pass> c = new ArrayList<>();
        for (Pass p : list) {
            c.add(p.copy());
        }
        return c;
    }

    boolean mark(int m, boolean back) {
        if (m < 0 || m > 3) {
            return false;
        }
        if (!back) {
            Kept k = new Kept();
            k.held = copy(held);
            k.told = told.clone();
            k.now = now;
            k.passings = copy(passings);
            marks.remove(m);
            marks.put(m, k);
            return true;
        }
        Kept k = marks.get(m);
        if (k == null) {
            return false;
        }
        for (int q = 0; q < 12; q++) {
            if (k.told[q]) {
                held[q] = k.held[q].clone();
            }
        }
        now = k.now;
        passings = copy(k.passings);
        boolean behind = false;
        for (int other : new ArrayList<>(marks.keySet())) {
            if (behind) {
                marks.remove(other);
            }
            behind = behind || other == m;
        }
        return true;
    }

    int count(int what) {
        int parcels = 0;
        for (boolean t : told) {
            parcels += t ? 1 : 0;
        }
        int taken = 0;
        for (Pass p : passings) {
            taken += p.taker >= 0 ? 1 : 0;
        }
        int[] all = {parcels, now, passings.size(), taken, law.number(false), law.number(true), honests.size(), tape.length()};
        return what >= 0 && what < all.length ? all[what] : -1;
    }
}
