import java.util.ArrayList;
import java.util.Collections;
import java.util.HashMap;
import java.util.List;
import java.util.Map;
import java.util.function.IntPredicate;
import java.util.regex.Matcher;
import java.util.regex.Pattern;

/**
 * The document once more, told as slowly and as plainly as can be: every order, every game and every rain is tried.
 * The class is compared with it. It is written from the document alone and shares nothing with the class.
 */
final class Model {
    static final int NONE = -1;

    /** A refusal on its way to the caller. */
    static final class No extends RuntimeException {
        private static final long serialVersionUID = 1;
        final int number;

        No(int number) {
            super(null, null, false, false);
            this.number = number;
        }
    }

    record Voice(int kind, int a, int pitch) {
    }

    record Stand(int depth, int rain, int day) {
        Stand later() {
            int then = depth + 1 - rain;
            return new Stand(then < 0 ? 0 : then > 40 ? 40 : then, rain, day == 9999 ? 9999 : day + 1);
        }

        Stand later(int days) {
            return days == 0 ? this : later().later(days - 1);
        }

        Stand atDepth(int other) {
            return new Stand(other, rain, day);
        }

        Stand inRain(int other) {
            return new Stand(depth, other, day);
        }
    }

    static final class Row {
        final int sort;
        final long[] elements;

        Row(int sort, int n) {
            this.sort = sort;
            elements = new long[n];
        }
    }

    record Image(Stand stand, int weight, int rest, int done, int refused, int seed, List<Voice> voices) {
    }

    private Stand stand = new Stand(10, 1, 0);
    private int weight = 5;
    private int rest = 0;
    private int done = 0;
    private int refused = 0;
    private int seed = 1;
    private List<Voice> voices = new ArrayList<>();
    private final Object[] shelves = new Object[8];
    private String tape = "";
    private final Map<Integer, Integer> refusals = new HashMap<>();
    private Image image;

    /** Counts a refusal and answers its number. */
    int refuse(No no) {
        refusals.merge(no.number, 1, Integer::sum);
        return no.number;
    }

    private static void need(boolean so, int refusal) {
        if (!so) {
            throw new No(refusal);
        }
    }

    private static boolean in(long v, long least, long most) {
        return v >= least && v <= most;
    }

    private static void needIn(long v, long least, long most) {
        need(in(v, least, most), -2);
    }

    private void needVoice(int voice) {
        needIn(voice, 0, voices.size() - 1);
    }

    private Row rowOf(int s) {
        need(!(shelves[s] instanceof Integer), -3);
        need(shelves[s] != null, -4);
        return (Row) shelves[s];
    }

    private List<Integer> word(int s, int n) {
        needIn(s, 0, 7);
        needIn(n, 0, 12);
        return sounds(rowOf(s), n);
    }

    private static List<Integer> sounds(Row row, int n) {
        need(row.elements.length >= n, -2);
        List<Integer> word = new ArrayList<>();
        for (int i = 0; i < n; i++) {
            need(in(row.elements[i], 0, 39), -5);
            word.add((int) row.elements[i]);
        }
        return word;
    }

    /** The WORD of s; the row in p is good, too, for m elements. */
    private List<Integer> wordBeside(int s, int n, int p, int m) {
        needIn(s, 0, 7);
        needIn(n, 0, 12);
        needIn(p, 0, 7);
        need(!(shelves[s] instanceof Integer) && !(shelves[p] instanceof Integer), -3);
        need(shelves[s] != null && shelves[p] != null, -4);
        need(rowOf(p).elements.length >= m, -2);
        return sounds(rowOf(s), n);
    }

    private static boolean isUnder(int kind, int upper) {
        int[] parents = {-1, 0, 0, 1, 2, 0};
        for (int k = kind; k >= 0; k = parents[k]) {
            if (k == upper) {
                return true;
            }
        }
        return false;
    }

    private static Integer plainBack(int s, int pitch, int depth) {
        int factor = s % 3 + 1;
        int third = (depth + pitch) / 3;
        return (s + third * factor) % 40;
    }

    private static Integer backOf(Voice v, Stand at, int s) {
        switch (v.kind) {
            case 1:
                return plainBack(s, v.pitch, at.depth);
            case 3:
                return plainBack(s, v.pitch, at.depth / 2);
            case 5:
                return (s + at.depth) % 7 == 0 ? null : plainBack(s, v.pitch + at.day / 10, at.depth);
            default:
                return (s + at.depth) % 7 == 0 ? null : plainBack(s, v.pitch, at.depth);
        }
    }

    private static List<Integer> echoOf(Voice v, Stand at, List<Integer> word) {
        List<Integer> shouted = new ArrayList<>(word);
        if ((v.kind == 2 || v.kind == 4) && !word.isEmpty()) {
            shouted.add(0, word.get(0));
        }
        List<Integer> echo = new ArrayList<>();
        for (int s : shouted) {
            Integer b = backOf(v, at, s);
            if (b != null) {
                echo.add(b);
            }
        }
        if (v.kind == 4) {
            Collections.reverse(echo);
        }
        return echo;
    }

    private static int total(List<Integer> echo) {
        int sum = 0;
        for (int s : echo) {
            sum += s;
        }
        return sum;
    }

    private int weightOf(Voice v, Stand at, List<Integer> word) {
        List<Integer> echo = echoOf(v, at, word);
        return echo.isEmpty() ? NONE : total(echo) % weight == rest ? 1 : 0;
    }

    private boolean yes(int voice, Stand at, List<Integer> word) {
        return weightOf(voices.get(voice), at, word) == 1;
    }

    private static List<Integer> those(int least, int most, IntPredicate is) {
        List<Integer> found = new ArrayList<>();
        for (int i = least; i <= most; i++) {
            if (is.test(i)) {
                found.add(i);
            }
        }
        return found;
    }

    private static int first(List<Integer> found) {
        return found.isEmpty() ? NONE : found.get(0);
    }

    private static int bits(List<Integer> found) {
        int bits = 0;
        for (int i : found) {
            bits += 1 << i;
        }
        return bits;
    }

    private List<Integer> voicesThat(IntPredicate is) {
        return those(0, voices.size() - 1, is);
    }

    int row(int s, int sort, int n) {
        needIn(s, 0, 7);
        needIn(sort, 0, 4);
        needIn(n, 0, 40);
        shelves[s] = new Row(sort, n);
        return 1;
    }

    int set(int s, int i, long v) {
        needIn(s, 0, 7);
        Row row = rowOf(s);
        needIn(i, 0, row.elements.length - 1);
        long[] kept = {(byte) v, (short) v, (int) v, v, v == 0 ? 0 : 1};
        row.elements[i] = kept[row.sort];
        return 1;
    }

    int copy(int p, int q, int i, int j, int n) {
        needIn(p, 0, 7);
        needIn(q, 0, 7);
        need(!(shelves[p] instanceof Integer) && !(shelves[q] instanceof Integer), -3);
        if (shelves[p] instanceof Row a && shelves[q] instanceof Row b) {
            need(a.sort == b.sort, -3);
            need(n >= 0 && i >= 0 && j >= 0, -2);
            need((long) i + n <= a.elements.length && (long) j + n <= b.elements.length, -2);
            long[] were = a.elements.clone();
            for (int k = 0; k < n; k++) {
                b.elements[j + k] = were[i + k];
            }
            return n;
        }
        throw new No(-4);
    }

    long element(int s, int i) {
        if (in(s, 0, 7) && shelves[s] instanceof Row row && in(i, 0, row.elements.length - 1)) {
            return row.elements[i];
        }
        return 0;
    }

    int holds(int s) {
        if (!in(s, 0, 7) || shelves[s] == null) {
            return NONE;
        }
        return shelves[s] instanceof Row row ? row.sort : 10 + (Integer) shelves[s];
    }

    int show(int s, int voice) {
        needIn(s, 0, 7);
        needIn(voice, NONE, voices.size() - 1);
        shelves[s] = voice == NONE ? null : (Integer) voice;
        return 1;
    }

    int says(int s, int kind) {
        needIn(s, 0, 7);
        needIn(kind, 0, 5);
        need(!(shelves[s] instanceof Row), -3);
        need(shelves[s] != null, -4);
        Voice v = voices.get((Integer) shelves[s]);
        need(isUnder(v.kind, kind), -3);
        return kind == 0 ? v.pitch : total(echoOf(v, stand, those(0, 11, i -> true)));
    }

    int voice(int kind, int a, int pitch) {
        needIn(kind, 0, 5);
        needIn(a, 0, 9);
        needIn(pitch, 0, 20);
        need(voices.size() < 8, -6);
        voices.add(new Voice(kind, a, pitch));
        return voices.size() - 1;
    }

    int pitch(int voice, int v) {
        needVoice(voice);
        needIn(v, 0, 20);
        Voice old = voices.get(voice);
        voices.set(voice, new Voice(old.kind, old.a, v));
        return old.pitch;
    }

    int tell(int what, int v) {
        needIn(what, 0, 2);
        needIn(v, 0, new int[] {40, 9, 9999}[what]);
        Stand old = stand;
        stand = new Stand(what == 0 ? v : old.depth, what == 1 ? v : old.rain, what == 2 ? v : old.day);
        return new int[] {old.depth, old.rain, old.day}[what];
    }

    int weigh(int w, int r) {
        needIn(w, 2, 9);
        needIn(r, 0, w - 1);
        int old = weight * 10 + rest;
        weight = w;
        rest = r;
        return old;
    }

    int feed(int letter) {
        needIn(letter, 0, 255);
        need(tape.length() < 250, -6);
        tape += (char) letter;
        return tape.length();
    }

    int wipe() {
        int old = tape.length();
        tape = "";
        return old;
    }

    /** A text that is no WELL: where. */
    static final class Fault extends RuntimeException {
        private static final long serialVersionUID = 1;
        final int place;

        Fault(int place) {
            super(null, null, false, false);
            this.place = place;
        }
    }

    int well() {
        String text = tape;
        tape = "";
        Image before = imageOfNow();
        try {
            return read(text);
        } catch (Fault fault) {
            become(before);
            refuse(new No(-2));
            return -20 - fault.place;
        }
    }

    private int read(String text) {
        List<String> tokens = new ArrayList<>();
        List<Integer> places = new ArrayList<>();
        Matcher matcher = Pattern.compile("[a-z]+|[0-9]+|;|[^ ]", Pattern.DOTALL).matcher(text);
        while (matcher.find()) {
            tokens.add(matcher.group());
            places.add(matcher.start());
        }
        tokens.add("");
        places.add(text.length());
        int at = 0;
        int statements = 0;
        while (true) {
            int used = readStatement(tokens, places, at);
            at += used;
            statements++;
            if (tokens.get(at).isEmpty()) {
                return statements;
            }
            if (!tokens.get(at).equals(";")) {
                throw new Fault(places.get(at));
            }
            at++;
        }
    }

    private int readStatement(List<String> tokens, List<Integer> places, int at) {
        switch (tokens.get(at)) {
            case "voice":
                if (voices.size() == 8) {
                    throw new Fault(places.get(at));
                }
                int k = number(tokens, places, at + 1, 0, 5);
                int a = number(tokens, places, at + 2, 0, 9);
                voice(k, a, number(tokens, places, at + 3, 0, 20));
                return 4;
            case "pitch":
                int x = number(tokens, places, at + 1, 0, voices.size() - 1);
                pitch(x, number(tokens, places, at + 2, 0, 20));
                return 3;
            case "weigh":
                int w = number(tokens, places, at + 1, 2, 9);
                weigh(w, number(tokens, places, at + 2, 0, w - 1));
                return 3;
            case "depth":
                tell(0, number(tokens, places, at + 1, 0, 40));
                return 2;
            case "rain":
                tell(1, number(tokens, places, at + 1, 0, 9));
                return 2;
            case "day":
                tell(2, number(tokens, places, at + 1, 0, 999));
                return 2;
            default:
                throw new Fault(places.get(at));
        }
    }

    private static int number(List<String> tokens, List<Integer> places, int at, int least, int most) {
        String token = tokens.get(at);
        if (!token.matches("[0-9]{1,3}") || !in(Integer.parseInt(token), least, most)) {
            throw new Fault(places.get(at));
        }
        return Integer.parseInt(token);
    }

    int voiceOf(int voice, int what) {
        needVoice(voice);
        needIn(what, 0, 3);
        Voice v = voices.get(voice);
        return new int[] {v.kind, v.a, v.pitch, v.kind == 5 ? v.pitch + stand.day / 10 : v.pitch}[what];
    }

    int back(int voice, int sound) {
        needVoice(voice);
        needIn(sound, 0, 39);
        Integer b = backOf(voices.get(voice), stand, sound);
        return b == null ? NONE : b;
    }

    int lost(int voice) {
        needVoice(voice);
        return those(0, 39, s -> back(voice, s) == NONE).size();
    }

    int echo(int s, int n, int voice, int i) {
        needVoice(voice);
        needIn(i, NONE, Integer.MAX_VALUE);
        List<Integer> echo = echoOf(voices.get(voice), stand, word(s, n));
        need(i < echo.size(), -5);
        return i == NONE ? echo.size() : echo.get(i);
    }

    int sum(int s, int n, int voice) {
        needVoice(voice);
        return total(echoOf(voices.get(voice), stand, word(s, n)));
    }

    int weighed(int s, int n, int voice) {
        needVoice(voice);
        return weightOf(voices.get(voice), stand, word(s, n));
    }

    int heard(int s, int n) {
        List<Integer> word = word(s, n);
        return bits(voicesThat(v -> yes(v, stand, word)));
    }

    int when(int s, int n, int voice) {
        needVoice(voice);
        List<Integer> word = word(s, n);
        return first(those(0, 60, d -> yes(voice, stand.later(d), word)));
    }

    int sure(int s, int n, int voice) {
        needVoice(voice);
        List<Integer> word = word(s, n);
        int no = first(those(0, 60, d -> !yes(voice, stand.later(d), word)));
        return no == NONE ? 60 : no;
    }

    int yeses(int s, int n, int voice, int what) {
        needVoice(voice);
        needIn(what, 0, 1);
        List<Integer> word = word(s, n);
        List<Integer> depths = those(0, 40, d -> yes(voice, stand.atDepth(d), word));
        return what == 0 ? depths.size() : first(depths);
    }

    int tuned(int s, int n, int voice) {
        needVoice(voice);
        List<Integer> word = word(s, n);
        Voice v = voices.get(voice);
        return bits(those(0, 20, p -> weightOf(new Voice(v.kind, v.a, p), stand, word) == 1));
    }

    int ends(int s, int n, int voice) {
        needVoice(voice);
        needIn(n, 0, 11);
        List<Integer> word = word(s, n);
        return first(those(0, 39, end -> {
            List<Integer> longer = new ArrayList<>(word);
            longer.add(end);
            return yes(voice, stand, longer);
        }));
    }

    int ask(int voice, int i) {
        needVoice(voice);
        needIn(i, NONE, Integer.MAX_VALUE);
        List<Integer> word = new ArrayList<>();
        int one = first(those(0, 39, s -> yes(voice, stand, List.of(s))));
        if (one != NONE) {
            word.add(one);
        } else {
            int two = first(those(0, 1599, ab -> yes(voice, stand, List.of(ab / 40, ab % 40))));
            if (two != NONE) {
                word.addAll(List.of(two / 40, two % 40));
            }
        }
        need(i < word.size(), -5);
        return i == NONE ? word.isEmpty() ? NONE : word.size() : word.get(i);
    }

    private boolean isTold(Voice v, Stand at, List<Integer> word, int p, int m) {
        List<Long> told = new ArrayList<>();
        for (int i = 0; i < m; i++) {
            told.add(element(p, i));
        }
        List<Long> echo = new ArrayList<>();
        for (int s : echoOf(v, at, word)) {
            echo.add((long) s);
        }
        return echo.equals(told);
    }

    private List<Integer> toldDepths(int s, int n, int p, int m, int voice) {
        needVoice(voice);
        needIn(m, 0, 13);
        List<Integer> word = wordBeside(s, n, p, m);
        return those(0, 40, d -> isTold(voices.get(voice), stand.atDepth(d), word, p, m));
    }

    int depths(int s, int n, int p, int m, int voice, int what) {
        needIn(what, 0, 2);
        List<Integer> found = toldDepths(s, n, p, m, voice);
        if (what == 0) {
            return found.size();
        }
        return found.isEmpty() ? NONE : what == 1 ? Collections.min(found) : Collections.max(found);
    }

    int fits(int s, int n, int p, int m, int voice, int what) {
        needIn(what, 0, 1);
        needVoice(voice);
        needIn(m, 0, 13);
        List<Integer> word = wordBeside(s, n, p, m);
        Voice v = voices.get(voice);
        if (what == 0) {
            return bits(those(0, 5, k -> isTold(new Voice(k, v.a, v.pitch), stand, word, p, m)));
        }
        return bits(those(0, 20, q -> isTold(new Voice(v.kind, v.a, q), stand, word, p, m)));
    }

    int below(int s, int n, int p, int m, int voice) {
        return toldDepths(s, n, p, m, voice).isEmpty() ? 1 : 0;
    }

    int next(int s, int n, int p, int m, int voice) {
        List<Integer> found = toldDepths(s, n, p, m, voice);
        int best = NONE;
        int fewest = Integer.MAX_VALUE;
        for (int sound = 0; sound < 40 && found.size() >= 2; sound++) {
            Map<List<Integer>, Integer> parts = new HashMap<>();
            for (int d : found) {
                parts.merge(echoOf(voices.get(voice), stand.atDepth(d), List.of(sound)), 1, Integer::sum);
            }
            int worst = Collections.max(parts.values());
            if (worst < fewest) {
                fewest = worst;
                best = sound;
            }
        }
        return best;
    }

    int suits(int s, int n, int i) {
        needIn(i, NONE, Integer.MAX_VALUE);
        List<Integer> word = word(s, n);
        need(i < voices.size(), -5);
        boolean[][] yes = new boolean[8][8];
        for (int v = 0; v < voices.size(); v++) {
            for (int place = 0; place < voices.size(); place++) {
                yes[v][place] = yes(v, stand.atDepth(Math.min(40, stand.depth + place)), word);
            }
        }
        List<Integer> best = new ArrayList<>();
        int most = tryOrders(new ArrayList<>(), 0, yes, best, NONE);
        return i == NONE ? most : best.get(i);
    }

    private int tryOrders(List<Integer> order, int count, boolean[][] yes, List<Integer> best, int most) {
        if (order.size() == voices.size()) {
            if (count > most) {
                best.clear();
                best.addAll(order);
            }
            return Math.max(count, most);
        }
        int found = most;
        for (int v = 0; v < voices.size(); v++) {
            if (!order.contains(v)) {
                int more = yes[v][order.size()] ? 1 : 0;
                order.add(v);
                found = tryOrders(order, count + more, yes, best, found);
                order.remove(order.size() - 1);
            }
        }
        return found;
    }

    private boolean firstWins(int voice, List<Integer> word, int depth, int left, boolean isFirst) {
        if (left == 0) {
            return yes(voice, stand.atDepth(depth), word);
        }
        for (int move = -1; move <= 1; move++) {
            int then = Math.max(0, Math.min(40, depth + move));
            if (firstWins(voice, word, then, left - 1, !isFirst) == isFirst) {
                return isFirst;
            }
        }
        return !isFirst;
    }

    int buckets(int s, int n, int voice, int k, int what) {
        needVoice(voice);
        needIn(k, 0, 8);
        needIn(what, 0, 1);
        List<Integer> word = word(s, n);
        if (what == 0) {
            return firstWins(voice, word, stand.depth, k, true) ? 1 : 0;
        }
        return first(those(0, 2, move -> {
            int then = Math.max(0, Math.min(40, stand.depth + move - 1));
            return k > 0 && firstWins(voice, word, then, k - 1, false);
        }));
    }

    int odds(int s, int n, int voice, int t, int what) {
        needVoice(voice);
        needIn(t, 0, 3);
        needIn(what, 0, 1);
        List<Integer> word = word(s, n);
        List<Stand> ways = List.of(stand);
        for (int day = 0; day < t; day++) {
            List<Stand> then = new ArrayList<>();
            for (Stand way : ways) {
                for (int rain = 0; rain < 10; rain++) {
                    then.add(way.inRain(rain).later());
                }
            }
            ways = then;
        }
        long yeses = 0;
        long depths = 0;
        for (Stand way : ways) {
            yeses += yes(voice, way, word) ? 1 : 0;
            depths += way.depth;
        }
        return (int) (what == 0 ? yeses * 1000000 / ways.size() : depths * 1000 / ways.size());
    }

    int ahead(int n) {
        needIn(n, 0, 200);
        return stand.later(n).depth;
    }

    int rains(int s, int n, int voice, int t) {
        needVoice(voice);
        needIn(t, 0, 60);
        List<Integer> word = word(s, n);
        return first(those(0, 9, r -> yes(voice, stand.inRain(r).later(t), word)));
    }

    int fairest(int s, int n) {
        List<Integer> word = word(s, n);
        int old = weight;
        int best = NONE;
        int most = NONE;
        for (weight = 2; weight <= 9; weight++) {
            int count = voicesThat(v -> yes(v, stand, word)).size();
            if (rest < weight && count > most) {
                most = count;
                best = weight;
            }
        }
        weight = old;
        return best;
    }

    int alike(int s, int n, int voice, int other) {
        needVoice(voice);
        needVoice(other);
        List<Integer> word = word(s, n);
        return echoOf(voices.get(voice), stand, word).equals(echoOf(voices.get(other), stand, word)) ? 1 : 0;
    }

    int less(int s, int n, int voice) {
        needVoice(voice);
        List<Integer> word = word(s, n);
        return first(those(0, n - 1, i -> {
            List<Integer> shorter = new ArrayList<>(word);
            shorter.remove(i);
            return yes(voice, stand, shorter);
        }));
    }

    int best(int s, int n, int what) {
        needIn(what, 0, 1);
        List<Integer> word = word(s, n);
        int[] counts = new int[41];
        int best = 0;
        for (int d = 0; d <= 40; d++) {
            int depth = d;
            counts[d] = voicesThat(v -> yes(v, stand.atDepth(depth), word)).size();
            best = counts[d] > counts[best] ? d : best;
        }
        return what == 0 ? best : counts[best];
    }

    int mute(int s, int n) {
        List<Integer> word = word(s, n);
        return bits(voicesThat(v -> echoOf(voices.get(v), stand, word).isEmpty()));
    }

    int like(int s, int n, int voice) {
        needVoice(voice);
        List<Integer> word = word(s, n);
        int wanted = weightOf(voices.get(voice), stand, word);
        return bits(voicesThat(v -> weightOf(voices.get(v), stand, word) == wanted));
    }

    int sinks(int v) {
        needIn(v, 0, 40);
        return first(those(0, 200, d -> stand.later(d).depth >= v));
    }

    int plain(int voice) {
        needVoice(voice);
        return those(0, 39, s -> back(voice, s) == s).size();
    }

    int twins() {
        int count = 0;
        for (int v = 0; v < voices.size(); v++) {
            for (int w = v + 1; w < voices.size(); w++) {
                int a = v;
                int b = w;
                count += those(0, 39, s -> back(a, s) == back(b, s)).size() == 40 ? 1 : 0;
            }
        }
        return count;
    }

    int ofKind(int kind) {
        needIn(kind, 0, 5);
        return voicesThat(v -> voices.get(v).kind == kind).size();
    }

    int judge(int s, int n, int p, int m) {
        needIn(m, 0, 20);
        List<Integer> word = wordBeside(s, n, p, 2 * m);
        return first(those(0, m - 1, i -> {
            long voice = element(p, 2 * i);
            return !in(voice, 0, voices.size() - 1)
                || weightOf(voices.get((int) voice), stand.later(i), word) != element(p, 2 * i + 1);
        }));
    }

    int shout(int s, int n, int voice) {
        needVoice(voice);
        int weighed = weightOf(voices.get(voice), stand, word(s, n));
        done += weighed == 1 ? 1 : 0;
        refused += weighed == 1 ? 0 : 1;
        return weighed;
    }

    int days(int n) {
        needIn(n, 1, 60);
        stand = stand.later(n);
        return stand.depth;
    }

    private int draw(int n) {
        seed = seed * 1103515245 + 12345;
        return (int) ((seed & 0xFFFFFFFFL) / 65536 % n);
    }

    int drawn(int s, int n, int k) {
        needIn(k, 1, 40);
        word(s, n);
        need(!voices.isEmpty(), -5);
        int count = 0;
        for (int day = 0; day < k; day++) {
            stand = stand.inRain(draw(10));
            count += shout(s, n, draw(voices.size())) == 1 ? 1 : 0;
            stand = stand.later();
        }
        return count;
    }

    int seed(int v) {
        int old = seed;
        seed = v;
        return old;
    }

    private Image imageOfNow() {
        return new Image(stand, weight, rest, done, refused, seed, new ArrayList<>(voices));
    }

    private void become(Image other) {
        stand = other.stand;
        weight = other.weight;
        rest = other.rest;
        done = other.done;
        refused = other.refused;
        seed = other.seed;
        voices = new ArrayList<>(other.voices);
    }

    int image() {
        image = imageOfNow();
        return 1;
    }

    int again() {
        need(image != null, -5);
        become(image);
        for (int s = 0; s < 8; s++) {
            if (shelves[s] instanceof Integer voice && voice >= voices.size()) {
                shelves[s] = null;
            }
        }
        return 1;
    }

    int status(int what) {
        int holding = 0;
        for (Object shelf : shelves) {
            holding += shelf == null ? 0 : 1;
        }
        int[] all = {voices.size(), stand.depth, stand.rain, stand.day, weight, rest, done, refused, tape.length(),
            seed, holding};
        if (in(what, 0, 10)) {
            return all[what];
        }
        return in(what, 12, 16) ? refusals.getOrDefault(10 - what, 0) : NONE;
    }
}
