import java.math.BigInteger;
import java.util.ArrayList;
import java.util.Arrays;
import java.util.List;
import java.util.Map;
import java.util.TreeMap;

/**
 * The document once more, written another way and with the whole Java library: kinds are classes,
 * texts are split at their weakest sign, sheets are real arrays, the row is a list.
 */
final class PlainModel {
    private static final long NO = -4611686018427387904L;

    // ---- kinds

    static class Wheel {
        final int more;
        int kicked;
        Wheel(int more) { this.more = more; }
        int drags(int said, int load, int t) { return said; }
        int wishes(int pace, int t) { return 0; }
        int loud() { return 0; }
        int kind() { return 0; }
    }

    static class Sticking extends Wheel {
        Sticking(int more) { super(more); }
        @Override int drags(int said, int load, int t) { return super.drags(said, load, t) + more * (load + 1); }
        @Override int loud() { return kicked; }
        @Override int kind() { return 1; }
    }

    static class Turning extends Wheel {
        Turning(int more) { super(more); }
        @Override int wishes(int pace, int t) { return more + more + 1; }
        @Override int kind() { return 2; }
    }

    static final class Threaded extends Sticking {
        Threaded(int more) { super(more); }
        @Override int drags(int said, int load, int t) { return super.drags(said, load, t) + t * more / 4; }
        @Override int loud() { return super.loud() * 2 + more; }
        @Override int kind() { return 3; }
    }

    static final class Fluttering extends Turning {
        Fluttering(int more) { super(more); }
        @Override int wishes(int pace, int t) {
            if (pace <= more) return super.wishes(pace, t);
            return (t % 2 == 1 ? -6 : 6) * (pace - more);
        }
        @Override int kind() { return 4; }
    }

    static final class Lifted extends Wheel {
        Lifted(int more) { super(more); }
        @Override int drags(int said, int load, int t) { return load > 3 * more ? super.drags(said, load, t) : 0; }
        @Override int kind() { return 5; }
    }

    static Wheel make(int kind, int more) {
        switch (kind) {
            case 1: return new Sticking(more);
            case 2: return new Turning(more);
            case 3: return new Threaded(more);
            case 4: return new Fluttering(more);
            case 5: return new Lifted(more);
            default: return new Wheel(more);
        }
    }

    // ---- texts

    interface Says { int of(Map<String, Integer> names); }

    static final class Token {
        final String s;
        final int place;
        Token(String s, int place) { this.s = s; this.place = place; }
        boolean is(String... any) { return Arrays.asList(any).contains(s); }
        boolean number() { return Character.isDigit(s.charAt(0)); }
        boolean name() { return is("load", "hand", "pace", "tenth", "more", "wheel"); }
    }

    /** All tokens; the last one is "broken", if a byte, a word or a number is wrong, or "end". */
    static List<Token> tokens(String tape) {
        List<Token> all = new ArrayList<>();
        List<String> keys = List.of("drags", "holds", "bumps", "or", "and", "not",
                "load", "hand", "pace", "tenth", "more", "wheel");
        int i = 0;
        while (i < tape.length()) {
            char c = tape.charAt(i);
            if (c == ' ' || c == '\n') { i++; continue; }
            int j = i + 1;
            boolean good;
            if (c >= 'a' && c <= 'z') {
                while (j < tape.length() && tape.charAt(j) >= 'a' && tape.charAt(j) <= 'z') j++;
                good = keys.contains(tape.substring(i, j));
            } else if (c >= '0' && c <= '9') {
                while (j < tape.length() && tape.charAt(j) >= '0' && tape.charAt(j) <= '9') j++;
                good = j - i <= 4;
            } else {
                good = "();+-*<=".indexOf(c) >= 0;
            }
            if (!good) {
                all.add(new Token("broken", i));
                return all;
            }
            all.add(new Token(tape.substring(i, j), i));
            i = j;
        }
        all.add(new Token("end", tape.length()));
        return all;
    }

    /** The first token that can't stand there, found with a stack of what is open; null: none. */
    static Token fault(List<Token> all) {
        String[] parts = {"drags", "holds", "bumps"};
        int i = 0;
        for (String part : parts) {
            if (!all.get(i).is(part)) return all.get(i);
            i++;
            List<String> open = new ArrayList<>();
            List<Boolean> comparedOutside = new ArrayList<>();
            boolean wantsOne = true;
            boolean notMayStand = true;
            boolean compared = false;
            for (;; i++) {
                Token t = all.get(i);
                if (wantsOne) {
                    boolean opens = t.is("(", "-") || t.is("not") && notMayStand;
                    if (opens && open.size() == 5) return t;
                    if (opens) open.add(t.s);
                    if (t.is("(")) { comparedOutside.add(compared); compared = false; notMayStand = true; }
                    else if (t.is("-")) notMayStand = false;
                    else if (t.number() || t.name()) { wantsOne = false; dropLast(open, "-"); }
                    else if (!opens) return t;
                } else if (t.is("+", "-", "*")) {
                    wantsOne = true;
                    notMayStand = false;
                } else if (t.is("<", "=") && !compared) {
                    compared = true;
                    wantsOne = true;
                    notMayStand = false;
                } else if (t.is("and", "or")) {
                    dropLast(open, "not");
                    compared = false;
                    wantsOne = true;
                    notMayStand = true;
                } else if (t.is(")") && open.contains("(")) {
                    dropLast(open, "not");
                    open.remove(open.size() - 1);
                    compared = comparedOutside.remove(comparedOutside.size() - 1);
                    dropLast(open, "-");
                } else if (t.is(";") && !open.contains("(")) {
                    i++;
                    break;
                } else {
                    return t;
                }
            }
        }
        return all.get(i).is("end") ? null : all.get(i);
    }

    private static void dropLast(List<String> open, String what) {
        while (!open.isEmpty() && open.get(open.size() - 1).equals(what)) open.remove(open.size() - 1);
    }

    static Says split(List<Token> e) {
        int at = lastOutside(e, "or");
        if (at >= 0) {
            Says a = split(e.subList(0, at)), b = split(e.subList(at + 1, e.size()));
            return n -> (a.of(n) != 0) | (b.of(n) != 0) ? 1 : 0;
        }
        at = lastOutside(e, "and");
        if (at >= 0) {
            Says a = split(e.subList(0, at)), b = split(e.subList(at + 1, e.size()));
            return n -> (a.of(n) != 0) & (b.of(n) != 0) ? 1 : 0;
        }
        if (e.get(0).is("not")) {
            Says a = split(e.subList(1, e.size()));
            return n -> a.of(n) == 0 ? 1 : 0;
        }
        at = Math.max(lastOutside(e, "<"), lastOutside(e, "="));
        if (at >= 0) {
            boolean less = e.get(at).is("<");
            Says a = split(e.subList(0, at)), b = split(e.subList(at + 1, e.size()));
            return n -> (less ? a.of(n) < b.of(n) : a.of(n) == b.of(n)) ? 1 : 0;
        }
        at = Math.max(lastOutside(e, "+"), lastOutside(e, "-"));
        if (at >= 0) {
            boolean plus = e.get(at).is("+");
            Says a = split(e.subList(0, at)), b = split(e.subList(at + 1, e.size()));
            return n -> plus ? a.of(n) + b.of(n) : a.of(n) - b.of(n);
        }
        at = lastOutside(e, "*");
        if (at >= 0) {
            Says a = split(e.subList(0, at)), b = split(e.subList(at + 1, e.size()));
            return n -> a.of(n) * b.of(n);
        }
        if (e.get(0).is("-")) {
            Says a = split(e.subList(1, e.size()));
            return n -> -a.of(n);
        }
        if (e.get(0).is("(")) return split(e.subList(1, e.size() - 1));
        String one = e.get(0).s;
        if (e.get(0).number()) {
            int v = Integer.parseInt(one);
            return n -> v;
        }
        return n -> n.get(one);
    }

    /** The last such sign that stands in no ( ) and joins two (a - ahead of a ONE doesn't). */
    private static int lastOutside(List<Token> e, String sign) {
        int depth = 0;
        int last = -1;
        for (int i = 0; i < e.size(); i++) {
            if (e.get(i).is("(")) depth++;
            if (e.get(i).is(")")) depth--;
            boolean behindOne = i > 0 && (e.get(i - 1).number() || e.get(i - 1).name() || e.get(i - 1).is(")"));
            if (depth == 0 && behindOne && e.get(i).is(sign)) last = i;
        }
        return last;
    }

    static Says[] parts(List<Token> all) {
        Says[] three = new Says[3];
        int from = 1;
        for (int p = 0; p < 3; p++) {
            int to = from;
            while (!all.get(to).is(";")) to++;
            three[p] = split(all.subList(from, to));
            from = to + 2;
        }
        return three;
    }

    // ---- state

    static final class State implements Cloneable {
        Wheel[] wheels = {make(0, 0), make(0, 0), make(0, 0), make(0, 0)};
        int[] loads = new int[8];
        int[] wide = new int[30];
        int left = 0, right = 0, pace = 3, looks = 1, bears = 30, away = 2, law = 0;
        List<Integer> bad = new ArrayList<>();
        List<Integer> order = new ArrayList<>();

        State() { Arrays.fill(wide, 20); }

        State again() {
            State s = new State();
            for (int w = 0; w < 4; w++) {
                s.wheels[w] = make(wheels[w].kind(), wheels[w].more);
                s.wheels[w].kicked = wheels[w].kicked;
            }
            s.loads = loads.clone();
            s.wide = wide.clone();
            s.left = left; s.right = right; s.pace = pace;
            s.looks = looks; s.bears = bears; s.away = away; s.law = law;
            s.bad = new ArrayList<>(bad);
            s.order = new ArrayList<>(order);
            return s;
        }
    }

    private State now = new State();
    private State kept = null;
    private String tape = "";
    private final List<Says[]> texts = new ArrayList<>();
    private final Object[] sheets = new Object[4];

    PlainModel() {
        texts.add(parts(tokens("drags 2 + load * 2 ; holds hand ; bumps 9 ;")));
    }

    // ---- a roll

    static final class Roll {
        int[] pull = new int[30], aside = new int[30], cost = new int[30];
        int holding, bumps, bits, farthest;
        int all() { return holding + bumps; }
    }

    private int says(Says[] law, int part, int... v) {
        Map<String, Integer> n = new TreeMap<>();
        String[] names = {"load", "hand", "pace", "tenth", "more", "wheel"};
        for (int i = 0; i < 6; i++) n.put(names[i], v[i]);
        int said = law[part].of(n);
        return said < 0 ? 0 : said > 99 ? 99 : said;
    }

    private Roll go(State s, Long seed) {
        Roll r = new Roll();
        Says[] law = texts.get(s.law);
        int aside = 0;
        BigInteger lot = seed == null ? null : BigInteger.valueOf(seed + 1);
        for (int t = 0; t < 30; t++) {
            int left = s.left, right = s.right;
            if (lot != null) {
                lot = lot.multiply(BigInteger.valueOf(48271)).mod(BigInteger.valueOf(2147483647));
                left = toHand(left + lot.intValue() % 3 - 1);
                right = toHand(right + lot.intValue() / 3 % 3 - 1);
            }
            int pull = 3 * (right - left);
            for (int w = 0; w < 4; w++) {
                boolean isLeft = w == 0 || w == 2;
                int load = s.loads[2 * w] + s.loads[2 * w + 1];
                int said = says(law, 0, load, isLeft ? left : right, s.pace, t, s.wheels[w].more, w);
                int drags = s.wheels[w].drags(said, load, t);
                pull += (isLeft ? drags : -drags) + s.wheels[w].wishes(s.pace, t);
            }
            aside -= pull * s.pace / 8;
            int held = says(law, 1, 0, left, s.pace, t, 0, 0) + says(law, 1, 0, right, s.pace, t, 0, 1);
            r.holding += held;
            r.cost[t] = held;
            if (aside > s.wide[t] || -aside > s.wide[t]) {
                int beyond = Math.abs(aside) - s.wide[t];
                int bump = says(law, 2, Math.min(beyond, 99), 0, s.pace, t, 0, aside < 0 ? 0 : 1);
                r.bumps += bump;
                r.cost[t] += bump;
                r.bits |= 1 << t;
                aside = aside < 0 ? -s.wide[t] : s.wide[t];
            }
            r.pull[t] = pull;
            r.aside[t] = aside;
            r.farthest = Math.max(r.farthest, Math.abs(aside));
        }
        return r;
    }

    private static int toHand(int v) { return v < 0 ? 0 : v > 9 ? 9 : v; }

    private Roll go(State s) { return go(s, null); }

    // ---- the calls

    int count(int what) {
        switch (what) {
            case 0: return now.bad.size();
            case 1: return texts.size();
            case 2: return now.law;
            case 3: return tape.length();
            case 4: return Arrays.stream(now.loads).sum();
            default: return -2;
        }
    }

    int feed(int n, int a, int b, int c, int d, int e) {
        int[] five = {a, b, c, d, e};
        if (n < 1 || n > 5 || Arrays.stream(five).anyMatch(x -> x < 0 || x > 255)) return -2;
        if (tape.length() + n > 160) return -4;
        for (int i = 0; i < n; i++) tape += (char) five[i];
        return tape.length();
    }

    int text() {
        if (texts.size() == 6) return -4;
        List<Token> all = tokens(tape);
        tape = "";
        Token wrong = fault(all);
        if (wrong != null) return -100 - wrong.place;
        texts.add(parts(all));
        return texts.size() - 1;
    }

    int force(int t) {
        if (t < 0 || t >= texts.size()) return -2;
        int was = now.law;
        now.law = t;
        return was;
    }

    int asks(int part, int loadHand, int tenth, int w) {
        if (part < 0 || part > 2 || loadHand < 0 || loadHand > 9999 || tenth < 0 || tenth > 29 || w < 0 || w > 3) return -2;
        return says(texts.get(now.law), part, loadHand / 100, loadHand % 100, now.pace, tenth, now.wheels[w].more, w);
    }

    int wheel(int w, int kind, int more) {
        if (w < 0 || w > 3) return -5;
        if (kind < 0 || kind > 5 || more < 0 || more > 9) return -7;
        Wheel was = now.wheels[w];
        now.wheels[w] = make(kind, more);
        return 10 * was.kind() + was.more;
    }

    int kick(int w) {
        if (w < 0 || w > 3) return -5;
        if (now.wheels[w].kicked == 9) return -3;
        now.wheels[w].kicked++;
        return now.wheels[w].loud();
    }

    int told(int w, int what) {
        if (w < 0 || w > 3) return -5;
        if (what < 0 || what > 4) return -7;
        Wheel x = now.wheels[w];
        return new int[] {x.kind(), x.more, x.kicked, x.loud(), now.loads[2 * w] + now.loads[2 * w + 1]}[what];
    }

    int set(int what, int of, int v) {
        if (what < 0 || what > 4) return -5;
        if (what == 0 && (of < 0 || of > 7) || what == 4 && (of < 0 || of > 29)) return -6;
        int[] low = {0, 0, 0, 1, 1}, high = {40, 9, 9, 9, 99};
        if (v < low[what] || v > high[what]) return -7;
        int was = look(what, of);
        if (what == 0) now.loads[of] = v;
        if (what == 1) now.left = v;
        if (what == 2) now.right = v;
        if (what == 3) now.pace = v;
        if (what == 4) now.wide[of] = v;
        return was;
    }

    int look(int what, int of) {
        if (what < 0 || what > 4) return -5;
        if (what == 0 && (of < 0 || of > 7) || what == 4 && (of < 0 || of > 29)) return -6;
        return what == 0 ? now.loads[of] : what == 1 ? now.left : what == 2 ? now.right : what == 3 ? now.pace : now.wide[of];
    }

    int at(int tenth, int what) {
        if (tenth < 0 || tenth > 29 || what < 0 || what > 1) return -1000000;
        Roll r = go(now);
        return what == 0 ? r.pull[tenth] : r.aside[tenth];
    }

    int roll(int what) {
        if (what < 0 || what > 4) return -1000000;
        Roll r = go(now);
        return new int[] {r.holding, r.bumps, r.bits, r.farthest, r.aside[29]}[what];
    }

    int straight(int what) {
        if (what != 0 && what != 1) return -2;
        int least = 1 << 30, first = -1;
        for (State s : allHands()) {
            int f = go(s).farthest;
            if (f < least) { least = f; first = 10 * s.left + s.right; }
        }
        return what == 0 ? first : least;
    }

    int hold(int what) {
        if (what != 0 && what != 1) return -2;
        int least = 1 << 30, first = -1;
        for (State s : allHands()) {
            int c = go(s).all();
            if (c < least) { least = c; first = 10 * s.left + s.right; }
        }
        return what == 0 ? first : least;
    }

    int exact() {
        for (State s : allHands()) {
            if (Arrays.stream(go(s).pull).allMatch(p -> p == 0)) return 10 * s.left + s.right;
        }
        return -1;
    }

    private List<State> allHands() {
        List<State> all = new ArrayList<>();
        for (int l = 0; l < 10; l++) {
            for (int r = 0; r < 10; r++) {
                State s = now.again();
                s.left = l;
                s.right = r;
                all.add(s);
            }
        }
        return all;
    }

    int put(int much, int what) {
        if (much < 1 || much > 40 || what < 0 || what > 1) return -2;
        int[] best = {-1, -1};
        for (int p = 0; p < 8; p++) {
            State s = now.again();
            s.loads[p] += much;
            if (s.loads[p] > 40) continue;
            int f = go(s).farthest;
            if (best[0] < 0 || f < best[1]) best = new int[] {p, f};
        }
        return best[what];
    }

    int swap(int what) {
        if (what < 0 || what > 1) return -2;
        int[] best = {-1, go(now).farthest};
        for (int p = 0; p < 8; p++) {
            for (int q = p + 1; q < 8; q++) {
                State s = now.again();
                s.loads[p] = now.loads[q];
                s.loads[q] = now.loads[p];
                int f = go(s).farthest;
                if (f < best[1]) best = new int[] {10 * p + q, f};
            }
        }
        return best[what];
    }

    long lay(int what) {
        if (what < 0 || what > 1) return NO;
        List<Integer> loads = new ArrayList<>();
        for (int l : now.loads) loads.add(l);
        loads.sort((a, b) -> b - a);
        State s = now.again();
        s.loads = new int[8];
        boolean[] come = new boolean[8];
        String digits = "";
        for (int load : loads) {
            int place = -1, least = 0;
            for (int p = 0; p < 8; p++) {
                if (come[p]) continue;
                State there = s.again();
                there.loads[p] = load;
                int f = go(there).farthest;
                if (place < 0 || f < least) { place = p; least = f; }
            }
            come[place] = true;
            s.loads[place] = load;
            digits += place + 1;
        }
        return what == 0 ? Long.parseLong(digits) : go(s).farthest;
    }

    int quick() {
        int most = -1;
        for (int p = 1; p <= 9; p++) {
            State s = now.again();
            s.pace = p;
            if (go(s).bits == 0) most = p;
        }
        return most;
    }

    int flutters() {
        for (int p = 1; p <= 9; p++) {
            State s = now.again();
            s.pace = p;
            Roll r = go(s);
            for (int t = 0; t < 29; t++) {
                if (r.pull[t] > 0 && r.pull[t + 1] < 0) return p;
            }
        }
        return -1;
    }

    int mend(int what) {
        if (what < 0 || what > 1) return -2;
        int[] best = {-1, go(now).all()};
        for (int w = 0; w < 4; w++) {
            State s = now.again();
            s.wheels[w] = make(0, 0);
            int c = go(s).all();
            if (c < best[1]) best = new int[] {w, c};
        }
        return best[what];
    }

    int change(int costs) {
        if (costs < 0 || costs > 9999) return -2;
        Roll r = go(now);
        for (int t = 30; t >= 0; t--) {
            int these = 0;
            for (int u = t; u < 30; u++) these += r.cost[u];
            if (these > costs / 100 * (30 - t) + costs % 100) return t;
        }
        return -1;
    }

    int turned() {
        State s = now.again();
        int[] l = now.loads;
        s.loads = new int[] {l[2], l[3], l[0], l[1], l[6], l[7], l[4], l[5]};
        return go(s).farthest - go(now).farthest;
    }

    // ---- told films

    private int[] numbers(Object sheet) {
        if (sheet instanceof byte[]) {
            byte[] b = (byte[]) sheet;
            int[] all = new int[b.length];
            for (int i = 0; i < b.length; i++) all[i] = b[i];
            return all;
        }
        if (sheet instanceof short[]) {
            short[] b = (short[]) sheet;
            int[] all = new int[b.length];
            for (int i = 0; i < b.length; i++) all[i] = b[i];
            return all;
        }
        return ((int[]) sheet).clone();
    }

    private int filmRefused(int s) {
        if (s < 0 || s > 3) return -2;
        if (sheets[s] == null) return -11;
        return numbers(sheets[s]).length > 30 ? -2 : 0;
    }

    private int otherwise(State by, int s) {
        Roll r = go(by);
        int[] told = numbers(sheets[s]);
        for (int t = 0; t < told.length; t++) if (told[t] != r.aside[t]) return t;
        return -1;
    }

    int judge(int s) {
        return filmRefused(s) != 0 ? filmRefused(s) : otherwise(now, s);
    }

    int kinds(int s, int w, int sort) {
        if (filmRefused(s) != 0) return filmRefused(s);
        if (w < 0 || w > 3) return -5;
        if (sort < 0 || sort > 1) return -7;
        int bits = 0;
        for (int v = 0; v < (sort == 0 ? 6 : 10); v++) {
            State by = now.again();
            by.wheels[w] = sort == 0 ? make(v, now.wheels[w].more) : make(now.wheels[w].kind(), v);
            if (otherwise(by, s) == -1) bits += 1 << v;
        }
        return bits;
    }

    int which(int s) {
        if (filmRefused(s) != 0) return filmRefused(s);
        int bits = 0;
        for (int w = 0; w < 4; w++) {
            boolean any = false;
            for (int km = 0; km < 60 && !any; km++) {
                State by = now.again();
                by.wheels = new Wheel[] {make(0, 0), make(0, 0), make(0, 0), make(0, 0)};
                by.wheels[w] = make(km / 10, km % 10);
                any = otherwise(by, s) == -1;
            }
            if (any) bits += 1 << w;
        }
        return bits;
    }

    int held(int s, int what) {
        if (filmRefused(s) != 0) return filmRefused(s);
        if (what < 0 || what > 1) return -7;
        int many = 0, first = -1;
        for (State by : allHands()) {
            if (otherwise(by, s) != -1) continue;
            if (many++ == 0) first = 10 * by.left + by.right;
        }
        return what == 0 ? many : first;
    }

    int laws(int s) {
        if (filmRefused(s) != 0) return filmRefused(s);
        int bits = 0;
        for (int t = 0; t < texts.size(); t++) {
            State by = now.again();
            by.law = t;
            if (otherwise(by, s) == -1) bits += 1 << t;
        }
        return bits;
    }

    int film(int s, int n) {
        if (s < 0 || s > 3 || n < 0 || n > 30) return -2;
        sheets[s] = Arrays.copyOf(go(now).aside, n);
        return n;
    }

    // ---- the row

    int come(int bad) {
        if (bad < 0 || bad > 99) return -2;
        if (now.bad.size() == 8) return -4;
        now.order.add(now.bad.size());
        now.bad.add(bad);
        return now.bad.size() - 1;
    }

    int rule(int what, int of, int v) {
        if (what < 0 || what > 3 || what == 0 && (of < 0 || of >= now.bad.size())) return -5;
        int[] low = {0, 1, 0, 0}, high = {99, 8, 99, 5};
        if (v < low[what] || v > high[what]) return -7;
        int was = what == 0 ? now.bad.get(of) : what == 1 ? now.looks : what == 2 ? now.bears : now.away;
        if (what == 0) now.bad.set(of, v);
        if (what == 1) now.looks = v;
        if (what == 2) now.bears = v;
        if (what == 3) now.away = v;
        return was;
    }

    /** Whom the guests meet; the order of s is then as it is at last. */
    private static List<Integer> serve(State s, int n) {
        List<Integer> met = new ArrayList<>();
        Map<Integer, Integer> due = new TreeMap<>();
        for (int g = 0; g < n; g++) {
            if (due.containsKey(g)) s.order.add(due.remove(g));
            List<Integer> seen = s.order.subList(0, Math.min(s.looks, s.order.size()));
            if (seen.isEmpty()) continue;
            Integer one = seen.stream().filter(t -> s.bad.get(t) <= s.bears).findFirst()
                    .orElse(seen.stream().min((a, b) -> s.bad.get(a) - s.bad.get(b)).get());
            s.order.remove(one);
            met.add(one);
            due.put(g + 1 + s.away, one);
        }
        s.order.addAll(due.values());
        return met;
    }

    private int together(State s, int n) {
        return serve(s, n).stream().mapToInt(t -> s.bad.get(t)).sum();
    }

    int meets(int n, int what) {
        if (n < 0 || n > 24 || what < 0 || what > 3) return -2;
        State s = now.again();
        List<Integer> met = serve(s, n);
        if (what == 0) return met.stream().mapToInt(t -> s.bad.get(t)).sum();
        if (what == 1) return met.stream().mapToInt(t -> s.bad.get(t)).max().orElse(0);
        if (what == 2) return met.stream().mapToInt(t -> 1 << t).reduce(0, (a, b) -> a | b);
        return s.order.isEmpty() ? -1 : s.order.get(0);
    }

    int day(int n) {
        if (n < 0 || n > 24) return -2;
        serve(now, n);
        return now.order.isEmpty() ? -1 : now.order.get(0);
    }

    int stands(int place) {
        return place < 0 || place >= now.order.size() ? -5 : now.order.get(place);
    }

    private static long term(long above, long below, int part) {
        long g = BigInteger.valueOf(above).gcd(BigInteger.valueOf(below)).longValue();
        return part == 0 ? above / g : below / g;
    }

    long share(int n, int part) {
        if (n < 1 || n > 24 || part < 0 || part > 1 || now.bad.isEmpty()) return NO;
        long many = now.bad.size();
        long all = now.bad.stream().mapToInt(b -> b).sum();
        return term(together(now.again(), n) * many - all * n, n * many, part);
    }

    int best(int n, int what) {
        if (n < 0 || n > 24 || what < 0 || what > 1) return -2;
        int[] best = null;
        for (int l = 1; l <= 8; l++) {
            State s = now.again();
            s.looks = l;
            int b = together(s, n);
            if (best == null || b < best[1]) best = new int[] {l, b};
        }
        return best[what];
    }

    int first(int n, int what) {
        if (n < 0 || n > 24 || what < 0 || what > 1) return -2;
        int[] best = {-1, together(now.again(), n)};
        for (int t = 0; t < now.bad.size(); t++) {
            State s = now.again();
            s.bad.set(t, 0);
            int b = together(s, n);
            if (b < best[1]) best = new int[] {t, b};
        }
        return best[what];
    }

    // ---- pushes by lot

    int drawn(int seed, int what) {
        if (seed < 0 || seed > 99999 || what < 0 || what > 1) return -1000000;
        Roll r = go(now, (long) seed);
        return what == 0 ? r.aside[29] : r.bits;
    }

    long odds(int seed, int seeds, int part) {
        if (seed < 0 || seed > 99999 || seeds < 1 || seeds > 30 || part < 0 || part > 1) return NO;
        int smooth = 0;
        for (int i = 0; i < seeds; i++) if (go(now, (long) seed + i).bits == 0) smooth++;
        return term(smooth, seeds, part);
    }

    int image() {
        kept = now.again();
        return now.bad.size();
    }

    int back() {
        if (kept == null) return -3;
        now = kept.again();
        return now.bad.size();
    }

    // ---- the host

    int sheet(int s, int sort, int n) {
        if (s < 0 || s > 3 || sort < -1 || sort > 2 || sort != -1 && n > 40) return -2;
        try {
            sheets[s] = sort == -1 ? null : sort == 0 ? new byte[n] : sort == 1 ? new short[n] : new int[n];
        } catch (NegativeArraySizeException e) {
            return -14;
        }
        return 1;
    }

    int cell(int s, int i, int v) {
        if (s < 0 || s > 3) return -2;
        if (sheets[s] == null) return -11;
        try {
            if (sheets[s] instanceof byte[]) ((byte[]) sheets[s])[i] = (byte) v;
            else if (sheets[s] instanceof short[]) ((short[]) sheets[s])[i] = (short) v;
            else ((int[]) sheets[s])[i] = v;
        } catch (ArrayIndexOutOfBoundsException e) {
            return -12;
        }
        return 1;
    }

    int copy(int s, int i, int other, int j, int n) {
        if (s < 0 || s > 3 || other < 0 || other > 3) return -2;
        if (sheets[s] == null || sheets[other] == null) return -11;
        try {
            System.arraycopy(sheets[s], i, sheets[other], j, n);
        } catch (ArrayStoreException e) {
            return -13;
        } catch (IndexOutOfBoundsException e) {
            return -12;
        }
        return n;
    }

    int loadsBy(int s, int sort, int at, int n) {
        if (s < 0 || s > 3 || sort < 0 || sort > 2 || n < 0 || n > 20) return -2;
        if (sheets[s] == null) return -11;
        Class<?>[] sorts = {byte[].class, short[].class, int[].class};
        if (!sorts[sort].isInstance(sheets[s])) return -13;
        int[] all = numbers(sheets[s]);
        int became = 0;
        try {
            for (int k = 0; k < n; k++) {
                int place = all[at + k + k], load = all[at + k + k + 1];
                if (place < 0 || place > 7 || load < 0 || load > 40) continue;
                now.loads[place] = load;
                became++;
            }
        } catch (ArrayIndexOutOfBoundsException e) {
            return -12;
        }
        return became;
    }

    int taken(int i, int kind) {
        if (kind < 0 || kind > 6) return -2;
        if (i < 0 || i > 11) return -12;
        if (i < 8 && now.loads[i] == 0) return -11;
        if (i < 8) return kind == 6 ? now.loads[i] : -13;
        Class<?>[] types = {Wheel.class, Sticking.class, Turning.class, Threaded.class, Fluttering.class, Lifted.class};
        return kind < 6 && types[kind].isInstance(now.wheels[i - 8]) ? i - 8 : -13;
    }
}
