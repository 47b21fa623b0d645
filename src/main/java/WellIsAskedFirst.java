import java.util.Arrays;

/** The well is asked first: what a shaft with water gives back to voices. README.md tells how to use it. */
public final class WellIsAskedFirst {
    public static final int NONE = -1;

    private static final int BAD = -2;
    private static final int OTHER = -3;
    private static final int NOTHING = -4;
    private static final int STUCK = -5;
    private static final int FULL = -6;
    private static final int GRANTED = 0;
    private static final int REFUSAL_KINDS = 5;
    private static final int STATUS_OF_REFUSALS = 12;

    private static final int VOICE = 0;
    private static final int DEEP = 1;
    private static final int STUTTERER = 2;
    private static final int PRIEST = 3;
    private static final int PROPHET = 4;
    private static final int CHILD = 5;

    private static final int DEPTH_MOST = 40;
    private static final long ALL_DEPTHS = (1L << (DEPTH_MOST + 1)) - 1;
    private static final int RAIN_MOST = 9;
    private static final int RAINS = RAIN_MOST + 1;
    private static final int DAY_MOST = 9999;
    private static final int DAY_WRITTEN_MOST = 999;
    private static final int WEIGHT_LEAST = 2;
    private static final int WEIGHT_MOST = 9;

    private static final int VOICES_MOST = 8;
    private static final int ALL_VOICES = (1 << VOICES_MOST) - 1;
    private static final int A_MOST = 9;
    private static final int PITCH_MOST = 20;
    private static final int SOUNDS = 40;
    private static final int WORD_MOST = 12;
    private static final int ECHO_MOST = 13;

    private static final int YES = 1;
    private static final int NO = 0;

    private static final int SHELVES = 8;
    private static final int ROW_MOST = 40;
    private static final int SORT_BYTES = 0;
    private static final int SORT_SHORTS = 1;
    private static final int SORT_INTS = 2;
    private static final int SORT_BOOLEANS = 4;
    private static final int SHELVED_VOICE = 10;

    private static final int TAPE_MOST = 250;
    private static final int DIGITS_MOST = 3;
    private static final int FAULT_BASE = -20;

    private static final int DAYS_MOST = 60;
    private static final int AHEAD_MOST = 200;
    private static final int DRAWN_MOST = 40;
    private static final int LOG_MOST = 20;
    private static final int TURNS_MOST = 8;
    private static final int ODDS_DAYS_MOST = 3;

    private final State now = new State();
    private final State kept = new State();
    /** What a text comes to while it is read; it counts only if the whole text is a WELL. */
    private final State written = new State();
    private boolean hasKept;
    private final Shelves shelves = new Shelves();
    private final Tape tape = new Tape();
    private final int[] refusals = new int[REFUSAL_KINDS];

    // All rows that calls work with are made here once: a call makes none.
    private final Trial trial = new Trial();
    private final Trial otherTrial = new Trial();
    /** The WORD that the call at hand was told. */
    private final Word told = new Word();
    /** A WORD that a call makes up itself. */
    private final Word tried = new Word();
    private final int[] yesesAt = new int[VOICES_MOST];
    private final int[] mostFrom = new int[ALL_VOICES + 1];
    private final int[] nextFrom = new int[ALL_VOICES + 1];
    private final int[] ways = new int[DEPTH_MOST + 1];
    private final int[] waysThen = new int[DEPTH_MOST + 1];
    private final int[] parts = new int[SOUNDS + 1];

    public WellIsAskedFirst() {
    }

    // ---- Shelves

    public int row(int s, int sort, int n) {
        if (!isShelf(s) || !isWithin(sort, SORT_BYTES, SORT_BOOLEANS) || !isWithin(n, 0, ROW_MOST)) {
            return refuse(BAD);
        }
        shelves.putRow(s, sort, n);
        return 1;
    }

    public int set(int s, int i, long v) {
        if (!isShelf(s)) {
            return refuse(BAD);
        }
        if (shelves.hasVoice(s)) {
            return refuse(OTHER);
        }
        if (shelves.isBare(s)) {
            return refuse(NOTHING);
        }
        if (!shelves.hasPlaces(s, i, 1)) {
            return refuse(BAD);
        }
        shelves.putElement(s, i, v);
        return 1;
    }

    public int copy(int p, int q, int i, int j, int n) {
        if (!isShelf(p) || !isShelf(q)) {
            return refuse(BAD);
        }
        if (shelves.hasVoice(p) || shelves.hasVoice(q) || shelves.haveTwoSorts(p, q)) {
            return refuse(OTHER);
        }
        if (shelves.isBare(p) || shelves.isBare(q)) {
            return refuse(NOTHING);
        }
        if (!shelves.hasPlaces(p, i, n) || !shelves.hasPlaces(q, j, n)) {
            return refuse(BAD);
        }
        shelves.copyElements(p, q, i, j, n);
        return n;
    }

    public long element(int s, int i) {
        return shelves.elementAt(s, i);
    }

    public int holds(int s) {
        return shelves.holdingOf(s);
    }

    public int show(int s, int voice) {
        if (!isShelf(s) || voice != NONE && !isVoice(voice)) {
            return refuse(BAD);
        }
        shelves.putVoice(s, voice);
        return 1;
    }

    public int says(int s, int kind) {
        if (!isShelf(s) || !isKind(kind)) {
            return refuse(BAD);
        }
        if (shelves.isBare(s)) {
            return refuse(NOTHING);
        }
        int voice = shelves.holdingOf(s) - SHELVED_VOICE;
        if (!isVoice(voice) || !isUnder(now.kindOf(voice), kind)) {
            return refuse(OTHER);
        }
        if (kind == VOICE) {
            return now.pitchOf(voice);
        }
        tried.clear();
        for (int sound = 0; sound < WORD_MOST; sound++) {
            tried.add(sound);
        }
        trial.standsFor(now, voice);
        trial.hears(tried);
        return trial.total();
    }

    // ---- The well and its voices

    public int voice(int kind, int a, int pitch) {
        if (!isKind(kind) || !isWithin(a, 0, A_MOST) || !isWithin(pitch, 0, PITCH_MOST)) {
            return refuse(BAD);
        }
        if (!now.hasRoom()) {
            return refuse(FULL);
        }
        now.addVoice(kind, a, pitch);
        return now.voices - 1;
    }

    public int pitch(int voice, int v) {
        if (!isVoice(voice) || !isWithin(v, 0, PITCH_MOST)) {
            return refuse(BAD);
        }
        int before = now.pitchOf(voice);
        now.putPitch(voice, v);
        return before;
    }

    public int tell(int what, int v) {
        int before;
        if (what == 0 && isWithin(v, 0, DEPTH_MOST)) {
            before = now.depth;
            now.depth = v;
        } else if (what == 1 && isWithin(v, 0, RAIN_MOST)) {
            before = now.rain;
            now.rain = v;
        } else if (what == 2 && isWithin(v, 0, DAY_MOST)) {
            before = now.day;
            now.day = v;
        } else {
            return refuse(BAD);
        }
        return before;
    }

    public int weigh(int w, int r) {
        if (!isWithin(w, WEIGHT_LEAST, WEIGHT_MOST) || !isWithin(r, 0, w - 1)) {
            return refuse(BAD);
        }
        int before = 10 * now.weight + now.rest;
        now.weight = w;
        now.rest = r;
        return before;
    }

    // ---- The tape

    public int feed(int letter) {
        if (!isWithin(letter, 0, 255)) {
            return refuse(BAD);
        }
        if (!tape.hasRoom()) {
            return refuse(FULL);
        }
        tape.put(letter);
        return tape.size;
    }

    public int wipe() {
        int before = tape.size;
        tape.size = 0;
        return before;
    }

    public int well() {
        written.becomes(now);
        int statements = tape.readInto(written);
        tape.size = 0;
        if (statements == NONE) {
            refuse(BAD);
            return FAULT_BASE - tape.place;
        }
        now.becomes(written);
        return statements;
    }

    // ---- Voices without a word

    public int voiceOf(int voice, int what) {
        if (!isVoice(voice) || !isWithin(what, 0, 3)) {
            return refuse(BAD);
        }
        switch (what) {
            case 0:
                return now.kindOf(voice);
            case 1:
                return now.aOf(voice);
            case 2:
                return now.pitchOf(voice);
            default:
                trial.standsFor(now, voice);
                return trial.pitchToday();
        }
    }

    public int back(int voice, int sound) {
        if (!isVoice(voice) || !isWithin(sound, 0, SOUNDS - 1)) {
            return refuse(BAD);
        }
        trial.standsFor(now, voice);
        return trial.returnOf(sound);
    }

    public int lost(int voice) {
        if (!isVoice(voice)) {
            return refuse(BAD);
        }
        trial.standsFor(now, voice);
        int count = 0;
        for (int sound = 0; sound < SOUNDS; sound++) {
            if (trial.returnOf(sound) == NONE) {
                count++;
            }
        }
        return count;
    }

    public int plain(int voice) {
        if (!isVoice(voice)) {
            return refuse(BAD);
        }
        trial.standsFor(now, voice);
        int count = 0;
        for (int sound = 0; sound < SOUNDS; sound++) {
            if (trial.returnOf(sound) == sound) {
                count++;
            }
        }
        return count;
    }

    public int twins() {
        int count = 0;
        for (int other = 1; other < now.voices; other++) {
            for (int voice = 0; voice < other; voice++) {
                if (areTwins(voice, other)) {
                    count++;
                }
            }
        }
        return count;
    }

    public int ofKind(int kind) {
        if (!isKind(kind)) {
            return refuse(BAD);
        }
        int count = 0;
        for (int voice = 0; voice < now.voices; voice++) {
            if (now.kindOf(voice) == kind) {
                count++;
            }
        }
        return count;
    }

    public int ask(int voice, int i) {
        if (!isVoice(voice) || i < NONE) {
            return refuse(BAD);
        }
        findShortestYes(voice);
        if (i == NONE) {
            return tried.size == 0 ? NONE : tried.size;
        }
        return i < tried.size ? tried.soundAt(i) : refuse(STUCK);
    }

    // ---- A word and a voice

    public int echo(int s, int n, int voice, int i) {
        int answer = takeWord(s, n, isVoice(voice) && i >= NONE);
        if (answer != GRANTED) {
            return answer;
        }
        trial.standsFor(now, voice);
        trial.hears(told);
        if (i == NONE) {
            return trial.count;
        }
        return i < trial.count ? trial.heardAt(i) : refuse(STUCK);
    }

    public int sum(int s, int n, int voice) {
        int answer = takeWord(s, n, isVoice(voice));
        if (answer != GRANTED) {
            return answer;
        }
        trial.standsFor(now, voice);
        trial.hears(told);
        return trial.total();
    }

    public int weighed(int s, int n, int voice) {
        int answer = takeWord(s, n, isVoice(voice));
        if (answer != GRANTED) {
            return answer;
        }
        trial.standsFor(now, voice);
        return trial.weighs(told);
    }

    public int when(int s, int n, int voice) {
        int answer = takeWord(s, n, isVoice(voice));
        if (answer != GRANTED) {
            return answer;
        }
        trial.standsFor(now, voice);
        for (int behind = 0; behind <= DAYS_MOST; behind++) {
            if (trial.weighs(told) == YES) {
                return behind;
            }
            trial.passDay();
        }
        return NONE;
    }

    public int sure(int s, int n, int voice) {
        int answer = takeWord(s, n, isVoice(voice));
        if (answer != GRANTED) {
            return answer;
        }
        trial.standsFor(now, voice);
        for (int onEnd = 0; onEnd < DAYS_MOST; onEnd++) {
            if (trial.weighs(told) != YES) {
                return onEnd;
            }
            trial.passDay();
        }
        return DAYS_MOST;
    }

    public int yeses(int s, int n, int voice, int what) {
        int answer = takeWord(s, n, isVoice(voice) && isWithin(what, 0, 1));
        if (answer != GRANTED) {
            return answer;
        }
        return tellOf(depthsOfYes(voice), what);
    }

    public int tuned(int s, int n, int voice) {
        int answer = takeWord(s, n, isVoice(voice));
        if (answer != GRANTED) {
            return answer;
        }
        trial.standsFor(now, voice);
        int bits = 0;
        for (int pitch = 0; pitch <= PITCH_MOST; pitch++) {
            trial.pitch = pitch;
            if (trial.weighs(told) == YES) {
                bits |= 1 << pitch;
            }
        }
        return bits;
    }

    public int ends(int s, int n, int voice) {
        int answer = takeWord(s, n, isVoice(voice) && n < WORD_MOST);
        if (answer != GRANTED) {
            return answer;
        }
        trial.standsFor(now, voice);
        for (int sound = 0; sound < SOUNDS; sound++) {
            tried.takes(told, NONE);
            tried.add(sound);
            if (trial.weighs(tried) == YES) {
                return sound;
            }
        }
        return NONE;
    }

    public int less(int s, int n, int voice) {
        int answer = takeWord(s, n, isVoice(voice));
        if (answer != GRANTED) {
            return answer;
        }
        trial.standsFor(now, voice);
        for (int place = 0; place < n; place++) {
            tried.takes(told, place);
            if (trial.weighs(tried) == YES) {
                return place;
            }
        }
        return NONE;
    }

    public int rains(int s, int n, int voice, int t) {
        int answer = takeWord(s, n, isVoice(voice) && isWithin(t, 0, DAYS_MOST));
        if (answer != GRANTED) {
            return answer;
        }
        for (int rain = 0; rain <= RAIN_MOST; rain++) {
            trial.standsFor(now, voice);
            trial.rain = rain;
            trial.passDays(t);
            if (trial.weighs(told) == YES) {
                return rain;
            }
        }
        return NONE;
    }

    public int alike(int s, int n, int voice, int other) {
        int answer = takeWord(s, n, isVoice(voice) && isVoice(other));
        if (answer != GRANTED) {
            return answer;
        }
        trial.standsFor(now, voice);
        trial.hears(told);
        otherTrial.standsFor(now, other);
        otherTrial.hears(told);
        return trial.heardSameAs(otherTrial) ? 1 : 0;
    }

    public int like(int s, int n, int voice) {
        int answer = takeWord(s, n, isVoice(voice));
        if (answer != GRANTED) {
            return answer;
        }
        trial.standsFor(now, voice);
        int wanted = trial.weighs(told);
        int bits = 0;
        for (int other = 0; other < now.voices; other++) {
            trial.standsFor(now, other);
            if (trial.weighs(told) == wanted) {
                bits |= 1 << other;
            }
        }
        return bits;
    }

    public int buckets(int s, int n, int voice, int k, int what) {
        int answer = takeWord(s, n, isVoice(voice) && isWithin(k, 0, TURNS_MOST) && isWithin(what, 0, 1));
        if (answer != GRANTED) {
            return answer;
        }
        long won = depthsOfYes(voice);
        long wonBehindFirstMove = 0;
        for (int turn = k - 1; turn >= 0; turn--) {
            wonBehindFirstMove = won;
            won = depthsWonBefore(won, turn % 2 == 0);
        }
        if (what == 0) {
            return isIn(won, now.depth) ? 1 : 0;
        }
        return firstMoveInto(wonBehindFirstMove);
    }

    public int odds(int s, int n, int voice, int t, int what) {
        int answer = takeWord(s, n, isVoice(voice) && isWithin(t, 0, ODDS_DAYS_MOST) && isWithin(what, 0, 1));
        if (answer != GRANTED) {
            return answer;
        }
        trial.standsFor(now, voice);
        int ofOneWay = what == 0 ? 1000000 : 1000;
        for (int depth = 0; depth <= DEPTH_MOST; depth++) {
            ways[depth] = depth == now.depth ? 1 : 0;
        }
        for (int day = 0; day < t; day++) {
            spreadWays();
            trial.passDay();
            ofOneWay /= RAINS;
        }
        return ofOneWay * (what == 0 ? waysToYes() : depthsOfWays());
    }

    // ---- A word and all voices

    public int heard(int s, int n) {
        int answer = takeWord(s, n, true);
        if (answer != GRANTED) {
            return answer;
        }
        return voicesOfYes(now.depth, now.weight);
    }

    public int mute(int s, int n) {
        int answer = takeWord(s, n, true);
        if (answer != GRANTED) {
            return answer;
        }
        int bits = 0;
        for (int voice = 0; voice < now.voices; voice++) {
            trial.standsFor(now, voice);
            if (trial.weighs(told) == NONE) {
                bits |= 1 << voice;
            }
        }
        return bits;
    }

    public int suits(int s, int n, int i) {
        int answer = takeWord(s, n, i >= NONE);
        if (answer != GRANTED) {
            return answer;
        }
        if (i >= now.voices) {
            return refuse(STUCK);
        }
        for (int place = 0; place < VOICES_MOST; place++) {
            yesesAt[place] = voicesOfYes(Math.min(DEPTH_MOST, now.depth + place), now.weight);
        }
        findOrder();
        return i == NONE ? mostFrom[0] : voiceInOrder(i);
    }

    public int fairest(int s, int n) {
        int answer = takeWord(s, n, true);
        if (answer != GRANTED) {
            return answer;
        }
        int best = NONE;
        int most = NONE;
        // A WEIGHT of REST or less may not be, with REST as it is.
        for (int weight = Math.max(WEIGHT_LEAST, now.rest + 1); weight <= WEIGHT_MOST; weight++) {
            int count = Integer.bitCount(voicesOfYes(now.depth, weight));
            if (count > most) {
                most = count;
                best = weight;
            }
        }
        return best;
    }

    public int best(int s, int n, int what) {
        int answer = takeWord(s, n, isWithin(what, 0, 1));
        if (answer != GRANTED) {
            return answer;
        }
        int best = NONE;
        int most = NONE;
        for (int depth = 0; depth <= DEPTH_MOST; depth++) {
            int count = Integer.bitCount(voicesOfYes(depth, now.weight));
            if (count > most) {
                most = count;
                best = depth;
            }
        }
        return what == 0 ? best : most;
    }

    // ---- A word and a told row

    public int depths(int s, int n, int p, int m, int voice, int what) {
        int answer = takeWordAndRow(s, n, p, m, isVoice(voice) && isEchoSize(m) && isWithin(what, 0, 2));
        if (answer != GRANTED) {
            return answer;
        }
        return tellOf(depthsOfEcho(voice, p, m), what);
    }

    public int fits(int s, int n, int p, int m, int voice, int what) {
        int answer = takeWordAndRow(s, n, p, m, isVoice(voice) && isEchoSize(m) && isWithin(what, 0, 1));
        if (answer != GRANTED) {
            return answer;
        }
        return what == 0 ? kindsOfEcho(voice, p, m) : pitchesOfEcho(voice, p, m);
    }

    public int below(int s, int n, int p, int m, int voice) {
        int answer = takeWordAndRow(s, n, p, m, isVoice(voice) && isEchoSize(m));
        if (answer != GRANTED) {
            return answer;
        }
        return depthsOfEcho(voice, p, m) == 0 ? 1 : 0;
    }

    public int next(int s, int n, int p, int m, int voice) {
        int answer = takeWordAndRow(s, n, p, m, isVoice(voice) && isEchoSize(m));
        if (answer != GRANTED) {
            return answer;
        }
        long fitting = depthsOfEcho(voice, p, m);
        if (Long.bitCount(fitting) < 2) {
            return NONE;
        }
        int best = NONE;
        int fewest = DEPTH_MOST + 2;
        for (int sound = 0; sound < SOUNDS; sound++) {
            int left = mostLeftBehind(sound, fitting);
            if (left < fewest) {
                fewest = left;
                best = sound;
            }
        }
        return best;
    }

    public int judge(int s, int n, int p, int m) {
        int answer = takeWordAndRow(s, n, p, 2 * m, isWithin(m, 0, LOG_MOST));
        if (answer != GRANTED) {
            return answer;
        }
        for (int two = 0; two < m; two++) {
            if (!isSo(p, two)) {
                return two;
            }
        }
        return NONE;
    }

    // ---- Days to come

    public int ahead(int n) {
        if (!isWithin(n, 0, AHEAD_MOST)) {
            return refuse(BAD);
        }
        int depth = now.depth;
        for (int day = 0; day < n; day++) {
            depth = depthBehind(depth, now.rain);
        }
        return depth;
    }

    public int sinks(int v) {
        if (!isWithin(v, 0, DEPTH_MOST)) {
            return refuse(BAD);
        }
        int depth = now.depth;
        for (int behind = 0; behind <= AHEAD_MOST; behind++) {
            if (depth >= v) {
                return behind;
            }
            depth = depthBehind(depth, now.rain);
        }
        return NONE;
    }

    // ---- In truth

    public int shout(int s, int n, int voice) {
        int answer = takeWord(s, n, isVoice(voice));
        if (answer != GRANTED) {
            return answer;
        }
        return shoutInTruth(voice);
    }

    public int days(int n) {
        if (!isWithin(n, 1, DAYS_MOST)) {
            return refuse(BAD);
        }
        for (int day = 0; day < n; day++) {
            now.passDay();
        }
        return now.depth;
    }

    public int drawn(int s, int n, int k) {
        int answer = takeWord(s, n, isWithin(k, 1, DRAWN_MOST));
        if (answer != GRANTED) {
            return answer;
        }
        if (now.voices == 0) {
            return refuse(STUCK);
        }
        int count = 0;
        for (int day = 0; day < k; day++) {
            now.rain = now.draw(RAINS);
            if (shoutInTruth(now.draw(now.voices)) == YES) {
                count++;
            }
            now.passDay();
        }
        return count;
    }

    public int seed(int v) {
        int before = now.seed;
        now.seed = v;
        return before;
    }

    public int image() {
        kept.becomes(now);
        hasKept = true;
        return 1;
    }

    public int again() {
        if (!hasKept) {
            return refuse(STUCK);
        }
        now.becomes(kept);
        shelves.dropVoicesFrom(now.voices);
        return 1;
    }

    public int status(int what) {
        if (isWithin(what, STATUS_OF_REFUSALS, STATUS_OF_REFUSALS + REFUSAL_KINDS - 1)) {
            return refusals[what - STATUS_OF_REFUSALS];
        }
        switch (what) {
            case 0:
                return now.voices;
            case 1:
                return now.depth;
            case 2:
                return now.rain;
            case 3:
                return now.day;
            case 4:
                return now.weight;
            case 5:
                return now.rest;
            case 6:
                return now.done;
            case 7:
                return now.refused;
            case 8:
                return tape.size;
            case 9:
                return now.seed;
            case 10:
                return shelves.countHolding();
            default:
                return NONE;
        }
    }

    // ---- What may be, and refusals

    private static boolean isWithin(int v, int least, int most) {
        return v >= least && v <= most;
    }

    private static boolean isShelf(int s) {
        return isWithin(s, 0, SHELVES - 1);
    }

    private static boolean isKind(int kind) {
        return isWithin(kind, VOICE, CHILD);
    }

    private static boolean isEchoSize(int m) {
        return isWithin(m, 0, ECHO_MOST);
    }

    private boolean isVoice(int voice) {
        return isWithin(voice, 0, now.voices - 1);
    }

    private static boolean isUnder(int kind, int upper) {
        return kind == upper || upper == VOICE
            || kind == PRIEST && upper == DEEP
            || kind == PROPHET && upper == STUTTERER;
    }

    private int refuse(int refusal) {
        int place = BAD - refusal;
        if (isWithin(place, 0, REFUSAL_KINDS - 1)) {
            refusals[place]++;
        }
        return refusal;
    }

    /** GRANTED, and `told` is the WORD; or a refusal, counted. */
    private int takeWord(int s, int n, boolean othersMayBe) {
        return takeWordAndRow(s, n, s, 0, othersMayBe);
    }

    /** As takeWord, for a call that also takes the first m elements of the ROW in a SHELF p, whatever they are. */
    private int takeWordAndRow(int s, int n, int p, int m, boolean othersMayBe) {
        if (!isShelf(s) || !isWithin(n, 0, WORD_MOST) || !isShelf(p) || !othersMayBe) {
            return refuse(BAD);
        }
        if (shelves.hasVoice(s) || shelves.hasVoice(p)) {
            return refuse(OTHER);
        }
        if (shelves.isBare(s) || shelves.isBare(p)) {
            return refuse(NOTHING);
        }
        if (!shelves.hasPlaces(s, 0, n) || !shelves.hasPlaces(p, 0, m)) {
            return refuse(BAD);
        }
        told.clear();
        for (int i = 0; i < n; i++) {
            long sound = shelves.elementAt(s, i);
            if (sound < 0 || sound >= SOUNDS) {
                return refuse(STUCK);
            }
            told.add((int) sound);
        }
        return GRANTED;
    }

    // ---- How calls find their answers

    private static int depthBehind(int depth, int rain) {
        return Math.max(0, Math.min(DEPTH_MOST, depth + 1 - rain));
    }

    private static int dayBehind(int day) {
        return Math.min(DAY_MOST, day + 1);
    }

    private static boolean isIn(long bits, int place) {
        return (bits >>> place & 1) == 1;
    }

    /** Of DEPTHS (bits): how many (what 0), the least (1), the greatest (2). */
    private static int tellOf(long depths, int what) {
        if (what == 0) {
            return Long.bitCount(depths);
        }
        for (int i = 0; i <= DEPTH_MOST; i++) {
            int depth = what == 1 ? i : DEPTH_MOST - i;
            if (isIn(depths, depth)) {
                return depth;
            }
        }
        return NONE;
    }

    private long depthsOfYes(int voice) {
        trial.standsFor(now, voice);
        long bits = 0;
        for (int depth = 0; depth <= DEPTH_MOST; depth++) {
            trial.depth = depth;
            if (trial.weighs(told) == YES) {
                bits |= 1L << depth;
            }
        }
        return bits;
    }

    private int voicesOfYes(int depth, int weight) {
        int bits = 0;
        for (int voice = 0; voice < now.voices; voice++) {
            trial.standsFor(now, voice);
            trial.depth = depth;
            trial.weight = weight;
            if (trial.weighs(told) == YES) {
                bits |= 1 << voice;
            }
        }
        return bits;
    }

    private boolean areTwins(int voice, int other) {
        trial.standsFor(now, voice);
        otherTrial.standsFor(now, other);
        for (int sound = 0; sound < SOUNDS; sound++) {
            if (trial.returnOf(sound) != otherTrial.returnOf(sound)) {
                return false;
            }
        }
        return true;
    }

    /** `tried` becomes the first of the shortest WORDS that get a VOICE YES, or an empty one. */
    private void findShortestYes(int voice) {
        trial.standsFor(now, voice);
        for (int first = 0; first < SOUNDS; first++) {
            tried.clear();
            tried.add(first);
            if (trial.weighs(tried) == YES) {
                return;
            }
        }
        for (int first = 0; first < SOUNDS; first++) {
            for (int second = 0; second < SOUNDS; second++) {
                tried.clear();
                tried.add(first);
                tried.add(second);
                if (trial.weighs(tried) == YES) {
                    return;
                }
            }
        }
        tried.clear();
    }

    private long depthsOfEcho(int voice, int p, int m) {
        trial.standsFor(now, voice);
        long bits = 0;
        for (int depth = 0; depth <= DEPTH_MOST; depth++) {
            trial.depth = depth;
            if (echoIsRow(p, m)) {
                bits |= 1L << depth;
            }
        }
        return bits;
    }

    private int kindsOfEcho(int voice, int p, int m) {
        trial.standsFor(now, voice);
        int bits = 0;
        for (int kind = VOICE; kind <= CHILD; kind++) {
            trial.kind = kind;
            if (echoIsRow(p, m)) {
                bits |= 1 << kind;
            }
        }
        return bits;
    }

    private int pitchesOfEcho(int voice, int p, int m) {
        trial.standsFor(now, voice);
        int bits = 0;
        for (int pitch = 0; pitch <= PITCH_MOST; pitch++) {
            trial.pitch = pitch;
            if (echoIsRow(p, m)) {
                bits |= 1 << pitch;
            }
        }
        return bits;
    }

    private boolean echoIsRow(int p, int m) {
        trial.hears(told);
        if (trial.count != m) {
            return false;
        }
        for (int i = 0; i < m; i++) {
            if (trial.heardAt(i) != shelves.elementAt(p, i)) {
                return false;
            }
        }
        return true;
    }

    /** How many of the fitting DEPTHS are left in the worst case, once `sound` was shouted by the trial's VOICE. */
    private int mostLeftBehind(int sound, long fitting) {
        Arrays.fill(parts, 0);
        int most = 0;
        for (int depth = 0; depth <= DEPTH_MOST; depth++) {
            if (isIn(fitting, depth)) {
                trial.depth = depth;
                // A WORD of one SOUND has an ECHO of that SOUND alone, once or twice: what it returns as tells all.
                int returned = trial.returnOf(sound);
                int part = returned == NONE ? SOUNDS : returned;
                if (isWithin(part, 0, SOUNDS)) {
                    parts[part]++;
                    most = Math.max(most, parts[part]);
                }
            }
        }
        return most;
    }

    /** By the VOICES that have shouted (bits): the most YESES still to be had, and the first VOICE that leads there. */
    private void findOrder() {
        int all = (1 << now.voices) - 1;
        for (int gone = Math.min(all, ALL_VOICES); gone >= 0; gone--) {
            findNextVoice(gone, yesesOfPlace(Integer.bitCount(gone)));
        }
    }

    private int yesesOfPlace(int place) {
        return isWithin(place, 0, VOICES_MOST - 1) ? yesesAt[place] : 0;
    }

    private void findNextVoice(int gone, int yeses) {
        int most = NONE;
        int first = NONE;
        for (int voice = 0; voice < now.voices; voice++) {
            int goneThen = gone | 1 << voice;
            if (goneThen != gone && isWithin(goneThen, 0, ALL_VOICES)) {
                int count = (yeses >> voice & 1) + mostFrom[goneThen];
                if (count > most) {
                    most = count;
                    first = voice;
                }
            }
        }
        if (isWithin(gone, 0, ALL_VOICES)) {
            mostFrom[gone] = Math.max(0, most);
            nextFrom[gone] = first;
        }
    }

    private int voiceInOrder(int i) {
        int gone = 0;
        int voice = NONE;
        for (int place = 0; place <= i && isWithin(gone, 0, ALL_VOICES); place++) {
            voice = nextFrom[gone];
            gone |= 1 << voice;
        }
        return voice;
    }

    private static long depthsPouredInto(long depths) {
        return ((depths << 1) | (depths & 1)) & ALL_DEPTHS;
    }

    private static long depthsDrawnInto(long depths) {
        return (depths >>> 1) | (depths & (1L << DEPTH_MOST));
    }

    /** DEPTHS from which the first one wins, by those from which he wins a turn later. */
    private static long depthsWonBefore(long won, boolean isFirstOnesTurn) {
        long poured = depthsPouredInto(won);
        long drawn = depthsDrawnInto(won);
        return isFirstOnesTurn ? poured | won | drawn : poured & won & drawn;
    }

    private int firstMoveInto(long won) {
        if (isIn(depthsPouredInto(won), now.depth)) {
            return 0;
        }
        if (isIn(won, now.depth)) {
            return 1;
        }
        return isIn(depthsDrawnInto(won), now.depth) ? 2 : NONE;
    }

    /** A DAY for all ways that RAIN may go. */
    private void spreadWays() {
        Arrays.fill(waysThen, 0);
        for (int depth = 0; depth <= DEPTH_MOST; depth++) {
            for (int rain = 0; rain <= RAIN_MOST; rain++) {
                int depthThen = depthBehind(depth, rain);
                if (isWithin(depthThen, 0, DEPTH_MOST)) {
                    waysThen[depthThen] += ways[depth];
                }
            }
        }
        System.arraycopy(waysThen, 0, ways, 0, DEPTH_MOST + 1);
    }

    private int waysToYes() {
        int count = 0;
        for (int depth = 0; depth <= DEPTH_MOST; depth++) {
            trial.depth = depth;
            if (ways[depth] > 0 && trial.weighs(told) == YES) {
                count += ways[depth];
            }
        }
        return count;
    }

    private int depthsOfWays() {
        int total = 0;
        for (int depth = 0; depth <= DEPTH_MOST; depth++) {
            total += ways[depth] * depth;
        }
        return total;
    }

    private boolean isSo(int p, int two) {
        long voice = shelves.elementAt(p, 2 * two);
        if (voice < 0 || voice >= now.voices) {
            return false;
        }
        trial.standsFor(now, (int) voice);
        trial.passDays(two);
        return trial.weighs(told) == shelves.elementAt(p, 2 * two + 1);
    }

    private int shoutInTruth(int voice) {
        trial.standsFor(now, voice);
        int weighed = trial.weighs(told);
        if (weighed == YES) {
            now.done++;
        } else {
            now.refused++;
        }
        return weighed;
    }

    /** All that an image keeps: the well, its VOICES and SEED. */
    private static final class State {
        private int depth = 10;
        private int rain = 1;
        private int day;
        private int weight = 5;
        private int rest;
        private int done;
        private int refused;
        private int seed = 1;
        private int voices;
        private final int[] kinds = new int[VOICES_MOST];
        private final int[] as = new int[VOICES_MOST];
        private final int[] pitches = new int[VOICES_MOST];

        private void becomes(State other) {
            depth = other.depth;
            rain = other.rain;
            day = other.day;
            weight = other.weight;
            rest = other.rest;
            done = other.done;
            refused = other.refused;
            seed = other.seed;
            voices = other.voices;
            for (int voice = 0; voice < VOICES_MOST; voice++) {
                kinds[voice] = other.kinds[voice];
                as[voice] = other.as[voice];
                pitches[voice] = other.pitches[voice];
            }
        }

        private boolean hasRoom() {
            return voices < VOICES_MOST;
        }

        private void addVoice(int kind, int a, int pitch) {
            if (isWithin(voices, 0, VOICES_MOST - 1)) {
                kinds[voices] = kind;
                as[voices] = a;
                pitches[voices] = pitch;
                voices++;
            }
        }

        private int kindOf(int voice) {
            return isWithin(voice, 0, VOICES_MOST - 1) ? kinds[voice] : NONE;
        }

        private int aOf(int voice) {
            return isWithin(voice, 0, VOICES_MOST - 1) ? as[voice] : NONE;
        }

        private int pitchOf(int voice) {
            return isWithin(voice, 0, VOICES_MOST - 1) ? pitches[voice] : NONE;
        }

        private void putPitch(int voice, int pitch) {
            if (isWithin(voice, 0, VOICES_MOST - 1)) {
                pitches[voice] = pitch;
            }
        }

        private void passDay() {
            depth = depthBehind(depth, rain);
            day = dayBehind(day);
        }

        private int draw(int below) {
            seed = seed * 1103515245 + 12345;
            return below > 0 ? (seed >>> 16) % below : 0;
        }
    }

    /** A WORD: SOUNDS, 12 at most. */
    private static final class Word {
        private final int[] sounds = new int[WORD_MOST];
        private int size;

        private void clear() {
            size = 0;
        }

        private void add(int sound) {
            if (isWithin(size, 0, WORD_MOST - 1)) {
                sounds[size] = sound;
                size++;
            }
        }

        private int soundAt(int i) {
            return i < size && isWithin(i, 0, WORD_MOST - 1) ? sounds[i] : NONE;
        }

        /** Becomes another WORD, but for the SOUND in one place (NONE: all of it). */
        private void takes(Word other, int but) {
            clear();
            for (int i = 0; i < other.size; i++) {
                if (i != but) {
                    add(other.soundAt(i));
                }
            }
        }
    }

    /** A SHOUT thought through: a VOICE and the well as they are or might be, and what comes back. */
    private static final class Trial {
        private int kind;
        private int pitch;
        private int depth;
        private int rain;
        private int day;
        private int weight;
        private int rest;
        private final int[] heard = new int[ECHO_MOST];
        private int count;

        private void standsFor(State state, int voice) {
            kind = state.kindOf(voice);
            pitch = state.pitchOf(voice);
            depth = state.depth;
            rain = state.rain;
            day = state.day;
            weight = state.weight;
            rest = state.rest;
            count = 0;
        }

        private void passDay() {
            depth = depthBehind(depth, rain);
            day = dayBehind(day);
        }

        private void passDays(int n) {
            for (int i = 0; i < n; i++) {
                passDay();
            }
        }

        private int pitchToday() {
            return kind == CHILD ? pitch + day / 10 : pitch;
        }

        /** What a SOUND comes back as; NONE: it is LOST. */
        private int returnOf(int sound) {
            boolean losesNone = isUnder(kind, DEEP);
            int depthHeard = kind == PRIEST ? depth / 2 : depth;
            if (!losesNone && (sound + depthHeard) % 7 == 0) {
                return NONE;
            }
            return (sound + (depthHeard + pitchToday()) / 3 * (1 + sound % 3)) % SOUNDS;
        }

        /** What is heard becomes the ECHO of a WORD. */
        private void hears(Word word) {
            count = 0;
            if (word.size > 0 && isUnder(kind, STUTTERER)) {
                hearBack(word.soundAt(0));
            }
            for (int i = 0; i < word.size; i++) {
                hearBack(word.soundAt(i));
            }
            if (kind == PROPHET) {
                turnRound();
            }
        }

        private void hearBack(int sound) {
            int returned = returnOf(sound);
            if (returned != NONE && isWithin(count, 0, ECHO_MOST - 1)) {
                heard[count] = returned;
                count++;
            }
        }

        private void turnRound() {
            for (int i = 0; i < count / 2 && i < ECHO_MOST / 2; i++) {
                int j = count - 1 - i;
                if (isWithin(j, 0, ECHO_MOST - 1)) {
                    int first = heard[i];
                    heard[i] = heard[j];
                    heard[j] = first;
                }
            }
        }

        private int heardAt(int i) {
            return i < count && isWithin(i, 0, ECHO_MOST - 1) ? heard[i] : NONE;
        }

        private boolean heardSameAs(Trial other) {
            if (count != other.count) {
                return false;
            }
            for (int i = 0; i < count; i++) {
                if (heardAt(i) != other.heardAt(i)) {
                    return false;
                }
            }
            return true;
        }

        private int total() {
            int total = 0;
            for (int i = 0; i < count; i++) {
                total += heardAt(i);
            }
            return total;
        }

        private int weighs(Word word) {
            hears(word);
            if (count == 0) {
                return NONE;
            }
            return weight > 0 && total() % weight == rest ? YES : NO;
        }
    }

    /** SHELVES, each with a place for a ROW of its own. */
    private static final class Shelves {
        /** By SHELF: NONE, the SORT of a ROW, or SHELVED_VOICE and the number of a VOICE. */
        private final int[] holding = new int[SHELVES];
        /** How many elements the ROW has; 0: no ROW. */
        private final int[] sizes = new int[SHELVES];
        private final long[] elements = new long[SHELVES * ROW_MOST];

        private Shelves() {
            Arrays.fill(holding, NONE);
        }

        private int holdingOf(int s) {
            return isShelf(s) ? holding[s] : NONE;
        }

        private boolean isBare(int s) {
            return holdingOf(s) == NONE;
        }

        private boolean hasVoice(int s) {
            return holdingOf(s) >= SHELVED_VOICE;
        }

        private boolean haveTwoSorts(int p, int q) {
            return !isBare(p) && !isBare(q) && holdingOf(p) != holdingOf(q);
        }

        /** Whether the ROW in SHELF s has n places (0, too) from place i on. */
        private boolean hasPlaces(int s, int i, int n) {
            return isShelf(s) && isWithin(n, 0, sizes[s]) && isWithin(i, 0, sizes[s] - n);
        }

        private void putRow(int s, int sort, int n) {
            if (isShelf(s) && isWithin(n, 0, ROW_MOST)) {
                holding[s] = sort;
                sizes[s] = n;
                Arrays.fill(elements, s * ROW_MOST, s * ROW_MOST + n, 0);
            }
        }

        private void putVoice(int s, int voice) {
            if (isShelf(s)) {
                holding[s] = voice == NONE ? NONE : SHELVED_VOICE + voice;
                sizes[s] = 0;
            }
        }

        private void putElement(int s, int i, long v) {
            if (hasPlaces(s, i, 1)) {
                elements[s * ROW_MOST + i] = asKept(holdingOf(s), v);
            }
        }

        private static long asKept(int sort, long v) {
            switch (sort) {
                case SORT_BYTES:
                    return (byte) v;
                case SORT_SHORTS:
                    return (short) v;
                case SORT_INTS:
                    return (int) v;
                case SORT_BOOLEANS:
                    return v != 0 ? 1 : 0;
                default:
                    return v;
            }
        }

        private long elementAt(int s, int i) {
            return hasPlaces(s, i, 1) ? elements[s * ROW_MOST + i] : 0;
        }

        private void copyElements(int p, int q, int i, int j, int n) {
            if (hasPlaces(p, i, n) && hasPlaces(q, j, n)) {
                System.arraycopy(elements, p * ROW_MOST + i, elements, q * ROW_MOST + j, n);
            }
        }

        private void dropVoicesFrom(int voices) {
            for (int s = 0; s < SHELVES; s++) {
                if (holding[s] >= SHELVED_VOICE + voices) {
                    holding[s] = NONE;
                }
            }
        }

        private int countHolding() {
            int count = 0;
            for (int s = 0; s < SHELVES; s++) {
                if (holding[s] != NONE) {
                    count++;
                }
            }
            return count;
        }
    }

    /** THE TAPE, and how it is read. */
    private static final class Tape {
        private static final int TOKEN_END = 0;
        private static final int TOKEN_WORD = 1;
        private static final int TOKEN_NUMBER = 2;
        private static final int TOKEN_SIGN = 3;
        private static final int TOKEN_NONE = 4;

        private final int[] bytes = new int[TAPE_MOST];
        private int size;
        /** Where the TOKEN at hand begins, and the place behind it. */
        private int place;
        private int behind;
        private int token;

        private boolean hasRoom() {
            return size < TAPE_MOST;
        }

        private void put(int letter) {
            if (isWithin(size, 0, TAPE_MOST - 1)) {
                bytes[size] = letter;
                size++;
            }
        }

        private int byteAt(int i) {
            return i >= 0 && i < size && i < TAPE_MOST ? bytes[i] : NONE;
        }

        /** How many STATEMENTS came to the state; NONE: `place` is the FAULT. */
        private int readInto(State state) {
            behind = 0;
            for (int statements = 1; statements <= TAPE_MOST; statements++) {
                step();
                if (!readStatement(state)) {
                    return NONE;
                }
                step();
                if (token == TOKEN_END) {
                    return statements;
                }
                if (token != TOKEN_SIGN) {
                    return NONE;
                }
            }
            return NONE;
        }

        /** The next TOKEN is at hand. */
        private void step() {
            place = behind;
            for (int i = 0; i < TAPE_MOST && byteAt(place) == ' '; i++) {
                place++;
            }
            token = tokenOf(byteAt(place));
            behind = place + 1;
            if (token == TOKEN_WORD || token == TOKEN_NUMBER) {
                for (int i = 0; i < TAPE_MOST && tokenOf(byteAt(behind)) == token; i++) {
                    behind++;
                }
            }
        }

        /** Which TOKEN a byte begins. */
        private static int tokenOf(int letter) {
            if (letter == NONE) {
                return TOKEN_END;
            }
            if (letter >= 'a' && letter <= 'z') {
                return TOKEN_WORD;
            }
            if (letter >= '0' && letter <= '9') {
                return TOKEN_NUMBER;
            }
            return letter == ';' ? TOKEN_SIGN : TOKEN_NONE;
        }

        /** Reads a STATEMENT from the TOKEN at hand on; if it is none, the TOKEN then at hand can't stand there. */
        private boolean readStatement(State state) {
            if (isAtWord("voice")) {
                return readVoice(state);
            }
            if (isAtWord("pitch")) {
                return readPitch(state);
            }
            if (isAtWord("weigh")) {
                return readWeight(state);
            }
            if (isAtWord("depth")) {
                int depth = readNumber(0, DEPTH_MOST);
                state.depth = depth;
                return depth != NONE;
            }
            if (isAtWord("rain")) {
                int rain = readNumber(0, RAIN_MOST);
                state.rain = rain;
                return rain != NONE;
            }
            if (isAtWord("day")) {
                int day = readNumber(0, DAY_WRITTEN_MOST);
                state.day = day;
                return day != NONE;
            }
            return false;
        }

        private boolean readVoice(State state) {
            if (!state.hasRoom()) {
                return false;
            }
            int kind = readNumber(VOICE, CHILD);
            if (kind == NONE) {
                return false;
            }
            int a = readNumber(0, A_MOST);
            if (a == NONE) {
                return false;
            }
            int pitch = readNumber(0, PITCH_MOST);
            if (pitch == NONE) {
                return false;
            }
            state.addVoice(kind, a, pitch);
            return true;
        }

        private boolean readPitch(State state) {
            int voice = readNumber(0, state.voices - 1);
            if (voice == NONE) {
                return false;
            }
            int pitch = readNumber(0, PITCH_MOST);
            if (pitch == NONE) {
                return false;
            }
            state.putPitch(voice, pitch);
            return true;
        }

        private boolean readWeight(State state) {
            int weight = readNumber(WEIGHT_LEAST, WEIGHT_MOST);
            if (weight == NONE) {
                return false;
            }
            int rest = readNumber(0, weight - 1);
            if (rest == NONE) {
                return false;
            }
            state.weight = weight;
            state.rest = rest;
            return true;
        }

        /** The number that the next TOKEN is; NONE: it is none that may be there. */
        private int readNumber(int least, int most) {
            step();
            if (token != TOKEN_NUMBER || behind - place > DIGITS_MOST) {
                return NONE;
            }
            int value = 0;
            for (int i = place; i < behind; i++) {
                value = 10 * value + byteAt(i) - '0';
            }
            return isWithin(value, least, most) ? value : NONE;
        }

        private boolean isAtWord(String word) {
            if (token != TOKEN_WORD || behind - place != word.length()) {
                return false;
            }
            for (int i = 0; i < word.length(); i++) {
                if (byteAt(place + i) != word.charAt(i)) {
                    return false;
                }
            }
            return true;
        }
    }
}
