import java.util.ArrayList;
import java.util.List;

/** The edges of THE TAPE, of TIMETABLES and their FAULTS, of SPELLED and THE PAPER (Terms 3; promises 2 to 4, 27, 28). */
public final class TextEdgeTest {
    private static final int NONE = -1, BAD = -2, FULL = -4;
    private static final int LOW = Integer.MIN_VALUE, HIGH = Integer.MAX_VALUE;

    /** What all texts are read into: two lines, the second one's first trip, footpaths to be changed. */
    private static final String NET = "L0:0>1;L1:2>3>4;T1:5+5+5;F0-1=7";

    public static void main(String[] args) {
        tapeFromNoneToFull();
        bytesThatMayBe();
        clearEmpties();
        tableEmpties();
        fullTapeRead();
        faultAtTheEndOfAFullTape();
        parts();
        partsNeedASign();
        figuresThatAreTaken();
        numbersAheadOfTheByteBehind();
        leftToRight();
        noRoomBegins();
        noneOfIts();
        partsCountForThoseBehind();
        faultDoesNothing();
        endsTooEarly();
        eachOtherByte();
        eachByteMoreOrLess();
        spelledNumbers();
        spelledSigns();
        paperHoldsTheLatest();
        paperPlaces();
        Due.end();
    }

    private static void fault(String text, int place) {
        TripRounds x = Due.with(NET);
        String before = Setting.net(x);
        Due.due("table of " + text, Due.table(x, text), -100 - place);
        Due.due("tape behind " + text, x.told(5), 0);
        Due.due("all behind " + text, Setting.net(x), before);
    }

    private static void fine(String text, int parts) {
        TripRounds x = Due.with(NET);
        Due.due("table of " + text, Due.table(x, text), parts);
        Due.due("tape behind " + text, x.told(5), 0);
    }

    // ---- the tape

    /** "0 .. 80 bytes": BAD ahead of FULL. */
    private static void tapeFromNoneToFull() {
        TripRounds x = new TripRounds();
        Due.due("told", x.told(5), 0);
        for (int n = 1; n <= 80; n++) {
            Due.due("feed", x.feed('L'), n);
            Due.due("told", x.told(5), n);
        }
        for (int letter : new int[] {1, 'L', 127}) Due.due("feed", x.feed(letter), FULL);
        for (int letter : new int[] {LOW, -1, 0, 128, HIGH}) Due.due("feed", x.feed(letter), BAD);
        Due.due("told", x.told(5), 80);
        Due.due("clear", x.clear(), 80);
        Due.due("told", x.told(5), 0);
        Due.due("feed", x.feed('L'), 1);
    }

    /** "A byte (1 .. 127)" */
    private static void bytesThatMayBe() {
        TripRounds x = new TripRounds();
        for (int letter = 1; letter <= 127; letter++) {
            Due.due("feed " + letter, x.feed(letter), 1);
            if (letter % 2 == 0) Due.due("clear", x.clear(), 1);
            else Due.due("table of " + letter, x.table(), "LTFD".indexOf(letter) >= 0 ? -101 : -100);
        }
        for (int letter : new int[] {LOW, LOW + 76, -127, -1, 0, 128, 255, 256 + 76, HIGH}) {
            Due.due("feed " + letter, x.feed(letter), BAD);
            Due.due("told", x.told(5), 0);
        }
    }

    private static void clearEmpties() {
        TripRounds x = new TripRounds();
        Due.due("clear", x.clear(), 0);
        Due.due("clear", x.clear(), 0);
        Due.feed(x, "F0-1=5");
        Due.due("clear", x.clear(), 6);
        Due.due("clear", x.clear(), 0);
        Due.due("table", x.table(), -100);
        Due.due("footpaths", x.told(2), 0);
        Due.feed(x, "F0-1=");
        x.clear();
        Due.due("table", Due.table(x, "F2-3=4"), 1);
        Due.due("foot", x.foot(2, 3), 4);
        Due.due("foot", x.foot(0, 1), -5);
    }

    /** "THE TAPE is empty behind each call that reads it", with a fault, too. */
    private static void tableEmpties() {
        TripRounds x = new TripRounds();
        Due.due("table", Due.table(x, "F0-1=5"), 1);
        Due.due("told", x.told(5), 0);
        Due.due("table", x.table(), -100);
        Due.due("table", Due.table(x, "F0-1=5;"), -107);
        Due.due("told", x.told(5), 0);
        Due.due("feed", x.feed('F'), 1);
        Due.due("clear", x.clear(), 1);
        Due.due("table", Due.table(x, "F0"), -102);
        Due.due("table", Due.table(x, "-1=5"), -100);
    }

    private static void fullTapeRead() {
        TripRounds x = new TripRounds();
        String text = "L0:00>01>02>03>04>05;T0:0001+001+001+001+001+001;F00-01=01;F10-11=60;D0.0@5+99";
        Due.due("bytes", text.length(), 78);
        Due.due("table", Due.table(x, text), 5);
        Due.due("minute", x.minute(0, 0, 5), 105);
        TripRounds y = new TripRounds();
        text = "L0:00>01>02>03>04>05;T0:0001+001+001+001+001+001;F00-01=01;F10-11=60;D0.0@5+9;L5";
        Due.due("bytes", text.length(), 80);
        Due.due("table", Due.table(y, text), -180);
        Due.due("lines", y.told(0), 0);
        text = "F0-1=01;F0-1=02;F0-1=03;F0-1=04;F0-1=05;F0-1=06;F0-1=07;F0-1=08;F0-1=09;F10-11=1";
        Due.due("bytes", text.length(), 80);
        Due.due("table", Due.table(y, text), 10);
        Due.due("foot", y.foot(0, 1), 9);
    }

    /** "the length, if it ends too early", and the last byte as a fault. */
    private static void faultAtTheEndOfAFullTape() {
        String most = "F0-1=1;F0-1=2;F0-1=3;F0-1=4;F0-1=5;F0-1=6;F0-1=7;F0-1=8;F0-1=9;F0-1=10;";
        Due.due("bytes", most.length(), 71);
        fine(most + "F10-11=60", 11);
        fine(most + "F02-03=60", 11);
        fault(most + "F2-3=60;F", 80);
        fault(most + "F2-3=060", 78);
        fault(most + "F02-03=61", 78);
        fault(most + "F02-3=60x", 79);
        fault(most + "F02-3=60;", 80);
    }

    // ---- timetables

    /** "PARTS, one or more, parted by ;" */
    private static void parts() {
        fine("F0-1=5", 1);
        fine("F0-1=5;F0-1=6", 2);
        fine("F0-1=1;F0-1=2;F0-1=3;F0-1=4;F0-1=5;F0-1=6;F0-1=7;F0-1=8;F0-1=9;F0-1=1;F0-1=2", 11);
        fault("", 0);
        fault(";", 0);
        fault("F0-1=5;", 7);
        fault(";F0-1=5", 0);
        fault("F0-1=5;;F0-1=5", 7);
        fault("F0-1=5,F0-1=5", 6);
        fault("F0-1=5 ;F0-1=5", 6);
        fault("F0-1=5; F0-1=5", 7);
        fault("F0-1=5F0-1=5", 6);
        fault("F0-1=50;T", 9);
    }

    /** "otherwise the place (from 0) of the first byte with which no such text goes on" */
    private static void partsNeedASign() {
        for (int letter = 1; letter < 128; letter++) {
            if ("LTFD".indexOf(letter) >= 0) continue;
            fault((char) letter + "0:0>1", 0);
            fault("F0-1=5;" + (char) letter, 7);
        }
        fault("L:", 1);
        fault("L0>", 2);
        fault("L0:x", 3);
        fault("L0:0:1", 4);
        fault("L0:0;1", 4);
        fault("L0:0>x", 5);
        fault("L0:0>1:", 6);
        fault("T:", 1);
        fault("T0;", 2);
        fault("T0:x", 3);
        fault("T0:5>5", 4);
        fault("T0:5;+5", 4);
        fault("T0:5+x", 5);
        fault("T0:5+5+", 6);
        fault("T1:5+5;", 6);
        fault("F-", 1);
        fault("F0=", 2);
        fault("F0-x", 3);
        fault("F0-1-", 4);
        fault("F0-1=x", 5);
        fault("F0-1=5=", 6);
        fault("D.", 1);
        fault("D1:", 2);
        fault("D1.x", 3);
        fault("D1.0.", 4);
        fault("D1.0@x", 5);
        fault("D1.0@0@", 6);
        fault("D1.0@0+x", 7);
        fault("D1.0@0+5+", 8);
    }

    /** "A number is as many figures as stand there, so many at most." */
    private static void figuresThatAreTaken() {
        fine("L5:0>1", 1);
        fault("L05:0>1", 2);
        fine("L0:00>01>11>2", 1);
        fault("L0:000>1", 5);
        fault("L0:3>001", 7);
        fault("L0:0>001", 5);
        fine("T0:1+1;T0:01+01;T0:001+001;T0:0001+1", 4);
        fault("T0:00001+1", 7);
        fault("T0:1+0001", 5);
        fault("T0:1+0011", 8);
        fault("T00:1+1", 2);
        fine("F00-11=01;F0-1=1", 2);
        fault("F000-1=1", 3);
        fault("F5-001=1", 5);
        fault("F0-001=1", 3);
        fault("F0-1=001", 5);
        fault("F0-1=010", 7);
        fine("D1.0@0+1;D1.0@2+01", 2);
        fault("D01.0@0+1", 2);
        fault("D1.00@0+1", 4);
        fault("D1.0@00+1", 6);
        fault("D1.0@0+001", 7);
        fault("D1.0@0+010", 9);
    }

    /** "numbers are looked at as soon as they are taken, ahead of the byte behind" */
    private static void numbersAheadOfTheByteBehind() {
        fault("L6x", 1);
        fault("L9", 1);
        fault("L0:12x", 3);
        fault("L0:99", 3);
        fault("L0:5>12x", 5);
        fault("L0:5>5x", 5);
        fault("L0:5>05", 5);
        fault("T2x", 1);
        fault("T9", 1);
        fault("T0:2000x", 3);
        fault("T0:9999", 3);
        fault("T0:5+0x", 5);
        fault("T0:1998+2x", 8);
        fault("T1:1990+9+1x", 10);
        fault("F12x", 1);
        fault("F5-5x", 3);
        fault("F5-12x", 3);
        fault("F5-6=0x", 5);
        fault("F5-6=61x", 5);
        fault("D2x", 1);
        fault("D1.1x", 3);
        fault("D1.0@3x", 5);
        fault("D1.0@0+0x", 7);
    }

    /** Of two faults that which stands first is told. */
    private static void leftToRight() {
        fault("L6:12>12", 1);
        fault("L5:12>12", 3);
        fault("L5:11>12>12", 6);
        fault("L0:0>0>0>0>0>0>0", 5);
        fault("T9:2000+0", 1);
        fault("T0:2000+0", 3);
        fault("T0:1999+0", 8);
        fault("F12-12=0", 1);
        fault("F11-12=0", 4);
        fault("F11-11=0", 4);
        fault("F11-10=0", 7);
        fault("D2.9@9+0", 1);
        fault("D1.9@9+0", 3);
        fault("D1.0@9+0", 5);
        fault("D1.0@2+0", 7);
        fault("F0-1=5;F0-1=99;x", 12);
    }

    /** "room for a LINE is looked at right behind its L, for a TRIP right behind its LINE's number" */
    private static void noRoomBegins() {
        TripRounds x = Due.with("L0:0>1;L0:0>1;L0:0>1;L0:0>1;L0:0>1;L0:0>1;L0:0>1;L0:0>1",
            "T0:1+1;T0:1+1;T0:1+1;T0:1+1;T0:1+1;T0:1+1");
        for (String line : new String[] {"L", "L9", "Lx", "L0:0>1", "L0:12"}) {
            Due.due("table of " + line, Due.table(x, line), -100);
            Due.due("table of " + line, Due.table(x, "F0-1=5;" + line), -107);
        }
        for (String trip : new String[] {"T0", "T0x", "T0:9999", "T0:1+1", "T00"}) {
            Due.due("table of " + trip, Due.table(x, trip), -100);
            Due.due("table of " + trip, Due.table(x, "F0-1=5;" + trip), -107);
        }
        for (String trip : new String[] {"T", "Tx", "T8", "T9:1+1"}) Due.due("table of " + trip, Due.table(x, trip), -101);
        Due.due("room of another", Due.table(x, "T7"), -102);
        Due.due("footpaths", x.told(2), 0);
        Due.due("lines", x.told(0), 8);
        Due.due("trips", x.told(1), 6);
    }

    /** "no such KIND, STOP, LINE, TRIP": where there is not even one. */
    private static void noneOfIts() {
        for (String text : new String[] {"T0", "T9", "D0", "D9", "T0:5+5", "D0.0@0+5"}) {
            Due.due("table of " + text, Due.table(new TripRounds(), text), -101);
        }
        TripRounds x = Due.with("L0:0>1");
        Due.due("no trip", Due.table(x, "D0.0@0+5"), -103);
        Due.due("no trip", Due.table(x, "D0.0"), -103);
        Due.due("no line", Due.table(x, "T1:5+5"), -101);
        Due.due("a trip", Due.table(x, "T0:5+5;D0.0@1+5"), 2);
        Due.due("no second trip", Due.table(x, "D0.1@1+5"), -103);
        Due.due("no third stop", Due.table(x, "D0.0@2+5"), -105);
        x.drop(0);
        Due.due("no trip any more", Due.table(x, "D0.0@0+5"), -103);
    }

    /** "Each PART counts for those behind it." */
    private static void partsCountForThoseBehind() {
        TripRounds x = new TripRounds();
        Due.due("ahead of its line", Due.table(x, "T0:1+1;L0:0>1"), -101);
        Due.due("ahead of its trip", Due.table(x, "L0:0>1;D0.0@0+5;T0:1+1"), -110);
        Due.due("in order", Due.table(x, "L0:0>1;T0:1+1;D0.0@0+5;D0.0@1+5;F0-1=9;F1-0=3"), 6);
        Due.due("minute", x.minute(0, 0, 0), 6);
        Due.due("minute", x.minute(0, 0, 1), 12);
        Due.due("foot", x.foot(0, 1), 3);
    }

    /** "A text with a FAULT does nothing", whatever its parts ahead of that are. */
    private static void faultDoesNothing() {
        String[] parts = {"L2:5>6", "T0:9+9", "T1:9+9+9", "F0-1=60", "F5-6=1", "D1.0@0+9", "L2:5>6>7;T2:1+1+1;D2.0@1+9"};
        for (String part : parts) {
            fine(part, part.split(";").length);
            for (String wrong : new String[] {";", ";x", "x", ";L6", ";T3", ";T2:", ";F0-1=0", ";D1.0@9"}) {
                TripRounds x = Due.with(NET);
                x.image();
                x.drop(1);
                x.undo();
                String before = Setting.show(x);
                Due.due("fault of " + part + wrong, Due.table(x, part + wrong) <= -100 ? 1 : 0, 1);
                Due.due("all behind " + part + wrong, Setting.show(x), before);
            }
        }
    }

    /** Each beginning of a right text either is one or ends too early, which is told by its length. */
    private static void endsTooEarly() {
        String text = "L1:10>2>3;T2:1200+5+50;F10-11=60;D2.0@1+99";
        List<Integer> whole = List.of(7, 9, 21, 22, 31, 32, 41, 42);
        for (int n = 0; n <= text.length(); n++) {
            TripRounds x = Due.with(NET);
            String before = Setting.net(x);
            int parts = text.substring(0, n).split(";").length;
            int due = whole.contains(n) ? parts : -100 - n;
            Due.due("table of " + text.substring(0, n), Due.table(x, text.substring(0, n)), due);
            if (due < 0) Due.due("all behind it", Setting.net(x), before);
        }
    }

    private static void likeTheModel(String text) {
        if (text.length() > 80) return;
        TripRounds x = new TripRounds();
        Model model = new Model();
        Due.due("net", Due.table(x, NET), model.table(NET));
        int due = model.table(text);
        Due.due("table of " + text, Due.table(x, text), due);
        Due.due("lines", x.told(0), model.lines.size());
        Due.due("foot", x.foot(0, 1), model.foot[0][1]);
        Due.due("minute", x.minute(1, 0, 2), model.lines.get(1).trips.get(0).minutes[2]);
    }

    private static List<String> rightTexts() {
        List<String> texts = new ArrayList<>();
        texts.add("L5:0>11;T2:1+1");
        texts.add("L1:10>2>3>4>5>6");
        texts.add("T1:1990+1+1;D1.1@2+9");
        texts.add("F10-11=60;F0-1=1");
        texts.add("D1.0@2+99;D1.0@0+1");
        return texts;
    }

    /** Each byte of a right text replaced by each other one, held against the second reading. */
    private static void eachOtherByte() {
        for (String text : rightTexts()) {
            for (int place = 0; place < text.length(); place++) {
                for (int letter = 1; letter < 128; letter++) {
                    likeTheModel(text.substring(0, place) + (char) letter + text.substring(place + 1));
                }
            }
        }
    }

    private static void eachByteMoreOrLess() {
        for (String text : rightTexts()) {
            for (int place = 0; place <= text.length(); place++) {
                if (place < text.length()) likeTheModel(text.substring(0, place) + text.substring(place + 1));
                for (char letter : "0159:;>+-=.@LTFD x".toCharArray()) {
                    likeTheModel(text.substring(0, place) + letter + text.substring(place));
                }
            }
        }
    }

    // ---- the paper

    private static void paperIs(TripRounds x, String due) {
        Due.due("told", x.told(6), due.length());
        for (int i = 0; i < due.length(); i++) Due.due("paper " + i, x.paper(i), due.charAt(i));
        for (int i : new int[] {LOW, -1, due.length(), 160, HIGH}) Due.due("paper " + i, x.paper(i), NONE);
    }

    /** Stops of one figure and of two, in rides and in walks. */
    private static void spelledNumbers() {
        TripRounds x = Due.with("L0:9>10;L0:10>9;T0:0+1;T1:0+1;F9-8=1;F10-11=1;F8-11=60");
        Due.due("spell", x.spell(9, 0, 10, 1), 9);
        paperIs(x, "L0.0:9>10");
        Due.due("spell", x.spell(10, 0, 9, 1), 9);
        paperIs(x, "L1.0:10>9");
        Due.due("spell", x.spell(9, 0, 8, 0), 5);
        paperIs(x, "W:9>8");
        Due.due("spell", x.spell(10, 0, 11, 0), 7);
        paperIs(x, "W:10>11");
        Due.due("spell", x.spell(11, 0, 8, 0), 6);
        paperIs(x, "W:11>8");
        Due.due("spell", x.spell(9, 0, 11, 1), 17);
        paperIs(x, "L0.0:9>10 W:10>11");
    }

    /** "LEGS parted by a blank": none ahead of the first, none behind the last. */
    private static void spelledSigns() {
        TripRounds x = Due.with("F0-10=1;L0:10>11;T0:0+1;T0:1+1;L0:11>2;T1:2+1;F2-3=1");
        Due.due("spell", x.spell(0, 0, 3, 2), 33);
        paperIs(x, "W:0>10 L0.1:10>11 L1.0:11>2 W:2>3");
    }

    /** "THE PAPER holds the latest one (nothing at first)." */
    private static void paperHoldsTheLatest() {
        TripRounds x = Due.with("L0:0>1;T0:5+5;F2-3=1");
        paperIs(x, "");
        Due.due("none", x.spell(1, 0, 0, 6), -5);
        paperIs(x, "");
        Due.due("spell", x.spell(0, 0, 1, 1), 8);
        paperIs(x, "L0.0:0>1");
        Due.due("none", x.spell(0, 6, 1, 1), -5);
        Due.due("NONE", x.spell(12, 0, 1, 1), NONE);
        Due.due("BAD", x.spell(0, 2000, 1, 1), BAD);
        x.drop(0);
        x.image();
        x.undo();
        paperIs(x, "L0.0:0>1");
        Due.due("a shorter one", x.spell(2, 0, 3, 1), 5);
        paperIs(x, "W:2>3");
        Due.due("an empty one", x.spell(2, 0, 2, 1), 0);
        paperIs(x, "");
    }

    private static void paperPlaces() {
        TripRounds x = Due.with("F1-2=1");
        x.spell(1, 0, 2, 0);
        Due.due("first", x.paper(0), 'W');
        Due.due("last", x.paper(4), '2');
        Due.due("behind the last", x.paper(5), NONE);
        Due.due("ahead of the first", x.paper(-1), NONE);
    }
}
