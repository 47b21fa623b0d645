/** Promises 17, 18, 28, 45, 46, 47: what voices have without a told word. */
public final class VoicesTest {
    public static void main(String[] args) {
        promise17Back();
        promise17BackByAllThatCounts();
        promise18Lost();
        promise28AskOne();
        promise28AskTwo();
        promise28AskNone();
        promise45Plain();
        promise46Twins();
        promise47OfKind();
        Check.end("VoicesTest");
    }

    /** DEPTH 10, PITCH 0: a third is 3. */
    private static void promise17Back() {
        int[] sounds = {0, 1, 2, 3, 4, 5, 11, 37, 38, 39};
        int[] want = {3, 7, 11, 6, Check.NONE, 14, Check.NONE, 3, 7, Check.NONE};
        int[] deep = {3, 7, 11, 6, 10, 14, 20, 3, 7, 2};
        int[] priest = {1, 3, 5, 4, 6, 8, 14, 39, 1, 0};
        for (int i = 0; i < sounds.length; i++) {
            int sound = sounds[i];
            WellIsAskedFirst x = Check.wellOfAllKinds(0);
            String what = "17: back of " + sound + " by ";
            for (int voice : new int[] {Check.VOICE, Check.STUTTERER, Check.PROPHET, Check.CHILD}) {
                Check.granted(what + voice, x, want[i], () -> x.back(voice, sound));
            }
            Check.granted(what + "DEEP", x, deep[i], () -> x.back(Check.DEEP, sound));
            Check.granted(what + "PRIEST", x, priest[i], () -> x.back(Check.PRIEST, sound));
        }
        WellIsAskedFirst x = Check.wellOfAllKinds(0);
        Check.refused("17: voice 6", x, Check.BAD, () -> x.back(6, 0));
        Check.refused("17: voice -1", x, Check.BAD, () -> x.back(-1, 0));
        Check.refused("17: sound 40", x, Check.BAD, () -> x.back(0, 40));
        Check.refused("17: sound -1", x, Check.BAD, () -> x.back(0, -1));
    }

    private static void promise17BackByAllThatCounts() {
        WellIsAskedFirst x = Check.wellOfAllKinds(20);
        x.tell(0, 40);
        Check.due("17: a third of 60, twice", x.back(Check.VOICE, 1), 1);
        Check.due("17: a third of 60, thrice", x.back(Check.VOICE, 5), 25);
        Check.due("17: a third of 20 and 20", x.back(Check.PRIEST, 1), 27);
        x.tell(0, 11);
        Check.due("17: half of 11, cut, and 20", x.back(Check.PRIEST, 0), 8);
        x.tell(0, 0);
        Check.due("17: 0 is a multiple of 7", x.back(Check.VOICE, 0), Check.NONE);
        Check.due("17: a third of 20, cut", x.back(Check.VOICE, 1), 13);
        x.tell(2, 105);
        Check.due("17: a third of 20 and 10", x.back(Check.CHILD, 1), 21);
        Check.due("17: the day is a child's alone", x.back(Check.STUTTERER, 1), 13);
    }

    private static void promise18Lost() {
        WellIsAskedFirst x = Check.wellOfAllKinds(5);
        int[] want = {6, 0, 6, 0, 6, 6};
        for (int voice = 0; voice < 6; voice++) {
            int number = voice;
            Check.granted("18: lost at 10 for " + voice, x, want[voice], () -> x.lost(number));
        }
        // At DEPTH 5 it is 2, 9, 16, 23, 30, 37; at 4 it is 3 .. 38; at 6 1 .. 36; at 3 4 .. 39; at 2 5 .. 33.
        int[] depths = {6, 5, 4, 3, 2, 1, 0};
        int[] lost = {6, 6, 6, 6, 5, 5, 6};
        for (int i = 0; i < depths.length; i++) {
            x.tell(0, depths[i]);
            Check.due("18: lost at " + depths[i], x.lost(0), lost[i]);
        }
        Check.refused("18: voice 6", x, Check.BAD, () -> x.lost(6));
        Check.refused("18: voice -1", x, Check.BAD, () -> x.lost(-1));
    }

    private static void promise28AskOne() {
        WellIsAskedFirst x = Check.wellOfAllKinds(0);
        // 3, 7, 11, 6, lost, 14, 9, 13, 17, 12, 16, lost, 15: the first multiple of 5.
        Check.granted("28: how many", x, 1, () -> x.ask(Check.VOICE, Check.NONE));
        Check.granted("28: the first", x, 12, () -> x.ask(Check.VOICE, 0));
        Check.refused("28: no second", x, Check.STUCK, () -> x.ask(Check.VOICE, 1));
        Check.granted("28: the first of a DEEP one", x, 4, () -> x.ask(Check.DEEP, 0));
        Check.granted("28: of a PRIEST, 1, 3, 5", x, 2, () -> x.ask(Check.PRIEST, 0));
        x.weigh(5, 3);
        Check.granted("28: 3 now", x, 0, () -> x.ask(Check.VOICE, 0));
        Check.granted("28: a STUTTERER's 14 and 14", x, 5, () -> x.ask(Check.STUTTERER, 0));
        Check.refused("28: voice 6", x, Check.BAD, () -> x.ask(6, Check.NONE));
        Check.refused("28: voice -1", x, Check.BAD, () -> x.ask(-1, Check.NONE));
        Check.refused("28: i -2", x, Check.BAD, () -> x.ask(0, -2));
        Check.refused("28: i huge", x, Check.STUCK, () -> x.ask(0, Integer.MAX_VALUE));
    }

    /** What a STUTTERER says of one SOUND is even. */
    private static void promise28AskTwo() {
        WellIsAskedFirst x = Check.wellOf(Check.STUTTERER, 0);
        x.weigh(2, 1);
        Check.granted("28: two, 3 and 3 and 3", x, 2, () -> x.ask(0, Check.NONE));
        Check.granted("28: the second", x, 0, () -> x.ask(0, 1));
        x.tell(0, 0);
        Check.granted("28: two", x, 2, () -> x.ask(0, Check.NONE));
        Check.granted("28: the first", x, 0, () -> x.ask(0, 0));
        Check.granted("28: the second", x, 1, () -> x.ask(0, 1));
        Check.refused("28: no third", x, Check.STUCK, () -> x.ask(0, 2));
        x.weigh(4, 3);
        // 0 is lost, and so is 7: the first second one that leaves 3 is 3 itself.
        Check.granted("28: the second by 4", x, 3, () -> x.ask(0, 1));
    }

    /** By a third of 39 all SOUNDS come back as 39 or as 2, 5, 8 and so on: no two are a multiple of 9 together. */
    private static void promise28AskNone() {
        WellIsAskedFirst x = Check.wellOf(Check.CHILD, 0);
        x.tell(2, 1070);
        x.weigh(9, 0);
        Check.granted("28: none", x, Check.NONE, () -> x.ask(0, Check.NONE));
        Check.refused("28: none has a first", x, Check.STUCK, () -> x.ask(0, 0));
        x.weigh(9, 6);
        Check.granted("28: 39 and 39", x, 2, () -> x.ask(0, Check.NONE));
        Check.granted("28: the first", x, 0, () -> x.ask(0, 0));
        Check.granted("28: the second", x, 0, () -> x.ask(0, 1));
    }

    private static void promise45Plain() {
        WellIsAskedFirst x = Check.wellOfAllKinds(0);
        Check.granted("45: none at 10", x, 0, () -> x.plain(Check.VOICE));
        x.tell(0, 0);
        Check.granted("45: all but the lost at 0", x, 34, () -> x.plain(Check.VOICE));
        Check.granted("45: all at 0, none is lost", x, 40, () -> x.plain(Check.DEEP));
        x.tell(0, 5);
        Check.granted("45: a PRIEST at 5", x, 40, () -> x.plain(Check.PRIEST));
        x.tell(0, 40);
        x.pitch(0, 20);
        x.pitch(1, 20);
        // Twice 20 is nothing modulo 40: 1, 4 .. 37; of these 16 and 37 are lost.
        Check.granted("45: by twice 20", x, 11, () -> x.plain(Check.VOICE));
        Check.granted("45: by twice 20, none is lost", x, 13, () -> x.plain(Check.DEEP));
        Check.refused("45: voice 6", x, Check.BAD, () -> x.plain(6));
        Check.refused("45: voice -1", x, Check.BAD, () -> x.plain(-1));
    }

    private static void promise46Twins() {
        WellIsAskedFirst x = new WellIsAskedFirst();
        Check.granted("46: no voices", x, 0, () -> x.twins());
        x.voice(Check.VOICE, 0, 0);
        Check.granted("46: one", x, 0, () -> x.twins());
        x.voice(Check.STUTTERER, 0, 1);
        Check.granted("46: a third of 10 and of 11", x, 1, () -> x.twins());
        x.voice(Check.PROPHET, 0, 2);
        Check.granted("46: not of 12", x, 1, () -> x.twins());
        x.voice(Check.DEEP, 0, 0);
        Check.granted("46: not one that loses none", x, 1, () -> x.twins());
        x.voice(Check.CHILD, 0, 0);
        Check.granted("46: three of one kind", x, 3, () -> x.twins());
        x.tell(2, 20);
        Check.granted("46: the child is as the prophet now", x, 2, () -> x.twins());
        x.voice(Check.PRIEST, 0, 4);
        Check.granted("46: a priest by 5 and 4 is as one deep by 10", x, 3, () -> x.twins());
    }

    private static void promise47OfKind() {
        WellIsAskedFirst x = new WellIsAskedFirst();
        int[] kinds = {3, 1, 3, 4, 5, 3, 0, 4};
        for (int kind : kinds) {
            x.voice(kind, 0, 0);
        }
        int[] want = {1, 1, 0, 3, 2, 1};
        for (int kind = 0; kind < 6; kind++) {
            int wanted = kind;
            Check.granted("47: of kind " + kind, x, want[kind], () -> x.ofKind(wanted));
        }
        Check.refused("47: kind 6", x, Check.BAD, () -> x.ofKind(6));
        Check.refused("47: kind -1", x, Check.BAD, () -> x.ofKind(-1));
        Check.due("47: no voices", new WellIsAskedFirst().ofKind(0), 0);
    }
}
