/** Promises 9 to 16: voices, what is told, the tape. */
public final class WellTest {
    public static void main(String[] args) {
        promise9Voice();
        promise10Pitch();
        promise11Tell();
        promise12Weigh();
        promise13Feed();
        promise14Wipe();
        promise15Well();
        promise15BlanksAndTokens();
        promise15AllOrNothing();
        promise15Faults();
        promise15NoRoom();
        promise15FullTape();
        promise16VoiceOf();
        Check.end("WellTest");
    }

    private static void promise9Voice() {
        WellIsAskedFirst x = new WellIsAskedFirst();
        Check.refused("9: kind 6", x, Check.BAD, () -> x.voice(6, 0, 0));
        Check.refused("9: kind -1", x, Check.BAD, () -> x.voice(-1, 0, 0));
        Check.refused("9: a 10", x, Check.BAD, () -> x.voice(0, 10, 0));
        Check.refused("9: a -1", x, Check.BAD, () -> x.voice(0, -1, 0));
        Check.refused("9: pitch 21", x, Check.BAD, () -> x.voice(0, 0, 21));
        Check.refused("9: pitch -1", x, Check.BAD, () -> x.voice(0, 0, -1));
        for (int voice = 0; voice < 8; voice++) {
            int kind = voice % 6;
            int number = voice;
            Check.granted("9: voice", x, voice, () -> x.voice(kind, 9, 20 - number));
        }
        Check.due("9: how many", x.status(0), 8);
        Check.due("9: the last one's kind", x.voiceOf(7, 0), 1);
        Check.due("9: the last one's a", x.voiceOf(7, 1), 9);
        Check.due("9: the last one's pitch", x.voiceOf(7, 2), 13);
        Check.due("9: its kind", x.voiceOf(5, 0), 5);
        Check.due("9: its a", x.voiceOf(5, 1), 9);
        Check.due("9: its pitch", x.voiceOf(5, 2), 15);
        Check.refused("9: no room", x, Check.FULL, () -> x.voice(0, 0, 0));
        Check.refused("9: no room, and bad", x, Check.BAD, () -> x.voice(0, 0, 21));
    }

    private static void promise10Pitch() {
        WellIsAskedFirst x = Check.wellOfAllKinds(7);
        Check.granted("10: pitch", x, 7, () -> x.pitch(2, 20));
        Check.granted("10: pitch again", x, 20, () -> x.pitch(2, 0));
        Check.due("10: what it is", x.voiceOf(2, 2), 0);
        Check.due("10: another's", x.voiceOf(1, 2), 7);
        Check.refused("10: voice 6", x, Check.BAD, () -> x.pitch(6, 0));
        Check.refused("10: voice -1", x, Check.BAD, () -> x.pitch(-1, 0));
        Check.refused("10: v 21", x, Check.BAD, () -> x.pitch(0, 21));
        Check.refused("10: v -1", x, Check.BAD, () -> x.pitch(0, -1));
    }

    private static void promise11Tell() {
        WellIsAskedFirst x = new WellIsAskedFirst();
        int[] most = {40, 9, 9999};
        int[] first = {10, 1, 0};
        for (int what = 0; what < 3; what++) {
            int told = what;
            Check.granted("11: tell the most", x, first[what], () -> x.tell(told, most[told]));
            Check.due("11: it is so", x.status(1 + what), most[what]);
            Check.refused("11: beyond the most", x, Check.BAD, () -> x.tell(told, most[told] + 1));
            Check.refused("11: -1", x, Check.BAD, () -> x.tell(told, -1));
            Check.granted("11: tell 0", x, most[what], () -> x.tell(told, 0));
            Check.due("11: it is so", x.status(1 + what), 0);
        }
        Check.refused("11: what 3", x, Check.BAD, () -> x.tell(3, 0));
        Check.refused("11: what -1", x, Check.BAD, () -> x.tell(-1, 0));
    }

    private static void promise12Weigh() {
        WellIsAskedFirst x = new WellIsAskedFirst();
        Check.granted("12: weigh", x, 50, () -> x.weigh(9, 8));
        Check.granted("12: weigh again", x, 98, () -> x.weigh(2, 1));
        Check.due("12: weight", x.status(4), 2);
        Check.due("12: rest", x.status(5), 1);
        Check.refused("12: w 1", x, Check.BAD, () -> x.weigh(1, 0));
        Check.refused("12: w 10", x, Check.BAD, () -> x.weigh(10, 0));
        Check.refused("12: r as w", x, Check.BAD, () -> x.weigh(5, 5));
        Check.refused("12: r -1", x, Check.BAD, () -> x.weigh(5, -1));
    }

    private static void promise13Feed() {
        WellIsAskedFirst x = new WellIsAskedFirst();
        Check.refused("13: 256", x, Check.BAD, () -> x.feed(256));
        Check.refused("13: -1", x, Check.BAD, () -> x.feed(-1));
        for (int i = 1; i <= 250; i++) {
            Check.due("13: feed", x.feed(i % 2 == 0 ? 0 : 255), i);
        }
        Check.refused("13: one more", x, Check.FULL, () -> x.feed(32));
        Check.refused("13: one more, and bad", x, Check.BAD, () -> x.feed(256));
        Check.due("13: size", x.status(8), 250);
    }

    private static void promise14Wipe() {
        WellIsAskedFirst x = new WellIsAskedFirst();
        Check.feed(x, "rain 3");
        Check.granted("14: wipe", x, 6, () -> x.wipe());
        Check.granted("14: wipe again", x, 0, () -> x.wipe());
        Check.due("14: size", x.status(8), 0);
        Check.feed(x, "rain 4");
        Check.due("14: nothing left of the first", x.well(), 1);
        Check.due("14: rain", x.status(2), 4);
    }

    private static int read(WellIsAskedFirst x, String text) {
        Check.feed(x, text);
        return x.well();
    }

    private static void promise15Well() {
        WellIsAskedFirst x = new WellIsAskedFirst();
        x.voice(1, 2, 3);
        String text = "voice 5 9 20; pitch 1 4; pitch 0 0; depth 40; rain 9; day 999; weigh 9 8; voice 0 0 0; depth 0";
        Check.feed(x, text);
        Check.granted("15: well", x, 9, () -> x.well());
        int[] want = {3, 0, 9, 999, 9, 8, 0, 0, 0};
        for (int what = 0; what < want.length; what++) {
            Check.due("15: status(" + what + ")", x.status(what), want[what]);
        }
        int[][] voices = {{1, 2, 0}, {5, 9, 4}, {0, 0, 0}};
        for (int voice = 0; voice < 3; voice++) {
            for (int what = 0; what < 3; what++) {
                Check.due("15: voiceOf(" + voice + ", " + what + ")", x.voiceOf(voice, what), voices[voice][what]);
            }
        }
    }

    private static void promise15BlanksAndTokens() {
        WellIsAskedFirst x = new WellIsAskedFirst();
        Check.due("15: no blanks where none must be", read(x, "depth5;rain0;day007"), 3);
        Check.due("15: depth", x.status(1), 5);
        Check.due("15: day", x.status(3), 7);
        Check.due("15: blanks all over", read(x, "   depth   6  ;  rain 2   "), 2);
        Check.due("15: depth", x.status(1), 6);
        Check.due("15: leading noughts", read(x, "depth 040"), 1);
        Check.due("15: the least of each", read(x, "day 0; rain 0; weigh 3 0; depth 0"), 4);
        Check.due("15: day", x.status(3), 0);
        Check.due("15: weight", x.status(4), 3);
        Check.due("15: voice glued", read(x, "voice0 1 2"), 1);
        Check.due("15: tokens as long as can be", read(x, "voice 012"), -20 - 6);
        Check.due("15: a word too long", read(x, "depths 3"), -20);
        Check.due("15: a word too short", read(x, "dept 3"), -20);
        Check.due("15: two words are no one", read(x, "de pth 3"), -20);
        Check.due("15: a number parted", read(x, "depth 1 2"), -20 - 8);
    }

    private static void promise15AllOrNothing() {
        WellIsAskedFirst x = new WellIsAskedFirst();
        x.voice(0, 0, 6);
        Check.refused("15: nothing", x, Check.NOTHING, () -> x.set(0, 0, 0));
        Check.feed(x, "depth 1; rain 2; day 3; weigh 4 1; voice 1 1 1; pitch 0 5; depth 41");
        Check.due("15: the last one may not be", x.well(), -20 - 65);
        int[] want = {1, 10, 1, 0, 5, 0, 0, 0, 0, 1, 0, -1, 1, 0, 1, 0, 0};
        for (int what = 0; what < want.length; what++) {
            Check.due("15: nothing came of it: status(" + what + ")", x.status(what), want[what]);
        }
        Check.due("15: pitch", x.voiceOf(0, 2), 6);
        Check.due("15: a well behind it", read(x, "depth 1"), 1);
        Check.due("15: nothing of the first", x.status(2), 1);
    }

    private static void fault(String text, int place) {
        WellIsAskedFirst x = new WellIsAskedFirst();
        Check.feed(x, text);
        Check.due("15: '" + text + "'", x.well(), -20 - place);
        Check.due("15: it is refused", x.status(12), 1);
        Check.due("15: the tape is empty", x.status(8), 0);
    }

    private static void promise15Faults() {
        fault("", 0);
        fault("   ", 3);
        fault("depth", 5);
        fault("depth ", 6);
        fault("depth 1;", 8);
        fault("depth 1; ", 9);
        fault("depth 1;;", 8);
        fault(";depth 1", 0);
        fault("12", 0);
        fault("depth 41", 6);
        fault("depth  41", 7);
        fault("depth 1000", 6);
        fault("depth 0001", 6);
        fault("depth 99999999999", 6);
        fault("depth depth", 6);
        fault("depth ;", 6);
        fault("depth 1 rain 2", 8);
        fault("depth 1rain", 7);
        fault("depth 1; Rain 1", 9);
        fault("dEpth 1", 0);
        fault("depthz 1", 0);
        fault("depta 1", 0);
        fault("tepth 1", 0);
        fault("main 1", 0);
        fault("say 1", 0);
        fault("noice 0 0 0", 0);
        fault("witch 0 0", 0);
        fault("neigh 5 0", 0);
        fault("depth -1", 6);
        fault("depth 1\t", 7);
        fault("depth 1;\u00ff", 8);
        fault("\u0000", 0);
        fault("depth 1 }", 8);
        fault("depth 1 /", 8);
        fault("depth 1 :", 8);
        fault("depth 1 `", 8);
        fault("depth 1 {", 8);
        fault("rain 10", 5);
        fault("day 1000", 4);
        fault("voice 6 0 0", 6);
        fault("voice 0 10 0", 8);
        fault("voice 0 0 21", 10);
        fault("voice 0 0", 9);
        fault("voice 0", 7);
        fault("voice", 5);
        fault("voice 0 0 0 0", 12);
        fault("pitch 0 0", 6);
        fault("voice 0 0 0;pitch 1 0", 18);
        fault("voice 0 0 0;pitch 0 21", 20);
        fault("voice 0 0 0;pitch 0", 19);
        fault("weigh 1 0", 6);
        fault("weigh 10 0", 6);
        fault("weigh 5 5", 8);
        fault("weigh 5", 7);
        fault("weigh 2 1;weigh 2 2", 18);
        fault("well 1", 0);
        fault("voices 0 0 0", 0);
    }

    private static void promise15NoRoom() {
        WellIsAskedFirst x = new WellIsAskedFirst();
        for (int voice = 0; voice < 7; voice++) {
            x.voice(0, 0, voice);
        }
        Check.due("15: room for one only", read(x, "voice 0 0 0;rain 2; voice 0 0 0"), -20 - 20);
        Check.due("15: none came", x.status(0), 7);
        Check.due("15: the last one", read(x, "voice 0 0 0;rain 2;pitch 7 9"), 3);
        Check.due("15: its pitch", x.voiceOf(7, 2), 9);
        Check.due("15: no room is found at the word", read(x, "  voice 9 9 99"), -20 - 2);
        Check.due("15: no room, nothing behind", read(x, "voice"), -20);
        Check.due("15: no room is bad, not full", x.status(12), 3);
        Check.due("15: no room is bad, not full", x.status(16), 0);
    }

    private static void promise15FullTape() {
        WellIsAskedFirst x = new WellIsAskedFirst();
        StringBuilder text = new StringBuilder();
        for (int i = 0; i < 35; i++) {
            text.append("rain 3;");
        }
        Check.due("15: 250 bytes, too early an end", read(x, text + "rain "), -20 - 250);
        WellIsAskedFirst y = new WellIsAskedFirst();
        Check.due("15: 250 bytes", read(y, text + "day 9"), 36);
        WellIsAskedFirst z = new WellIsAskedFirst();
        Check.due("15: 250 blanks", read(z, " ".repeat(250)), -20 - 250);
        WellIsAskedFirst w = new WellIsAskedFirst();
        Check.due("15: 250 letters", read(w, "a".repeat(250)), -20);
        WellIsAskedFirst v = new WellIsAskedFirst();
        Check.due("15: 245 digits", read(v, "depth" + "0".repeat(245)), -20 - 5);
    }

    private static void promise16VoiceOf() {
        WellIsAskedFirst x = Check.wellOfAllKinds(7);
        x.tell(2, 129);
        for (int voice = 0; voice < 6; voice++) {
            int number = voice;
            Check.granted("16: kind", x, voice, () -> x.voiceOf(number, 0));
            Check.granted("16: a", x, voice, () -> x.voiceOf(number, 1));
            Check.granted("16: pitch", x, 7, () -> x.voiceOf(number, 2));
            Check.granted("16: pitch today", x, voice == Check.CHILD ? 19 : 7, () -> x.voiceOf(number, 3));
        }
        x.tell(2, 9);
        Check.due("16: a tenth, cut", x.voiceOf(5, 3), 7);
        x.tell(2, 9999);
        Check.due("16: the last day", x.voiceOf(5, 3), 7 + 999);
        Check.refused("16: voice 6", x, Check.BAD, () -> x.voiceOf(6, 0));
        Check.refused("16: voice -1", x, Check.BAD, () -> x.voiceOf(-1, 0));
        Check.refused("16: what 4", x, Check.BAD, () -> x.voiceOf(0, 4));
        Check.refused("16: what -1", x, Check.BAD, () -> x.voiceOf(0, -1));
    }
}
