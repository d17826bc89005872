import java.util.regex.Matcher;
import java.util.regex.Pattern;

/** The edges of plug-ins, names, strengths, texts, ages and providers; each test tells its sentence. */
public final class PlugEdgesTest {
    /** A text as the document has it, but for names that there are and for room. */
    private static final String MARKS = "(?:[-+][0-7])*(?:!(?:[-+][0-7])*){0,9}";
    private static final String ITEM = "plug [a-z]{1,4} [0-4] [0-9]" + MARKS;
    private static final Pattern TEXT = Pattern.compile(ITEM + "(?:;" + ITEM + ")*");

    public static void main(String[] args) {
        firstAndLastNumbers();
        twelveAtMost();
        twelveWithTexts();
        everyName();
        namesOfThoseThatAreNotGone();
        strengthsAtTheEdges();
        textsThatEndTooEarly();
        textsWithAnotherElement();
        namesOfOneToFourLetters();
        tenthFault();
        marksComeAgain();
        longestText();
        namesThatThereAre();
        namesAreJudgedBehindTheBlank();
        itemsWithoutRoom();
        nothingOfTheTextHolds();
        theLatestFault();
        agesAndTheClock();
        talliesWrap();
        providersAtTheEdges();
        boundToOlderOnes();
        Checks.end("PlugEdgesTest");
    }

    /** "RANK (0 to 9), NEEDS and OFFERS (sets of SERVICES), FAULTS (0 to 9)", KINDS 0 to 4. */
    private static void firstAndLastNumbers() {
        PluginChains x = new PluginChains();
        Checks.due("plug", x.plug(0, 0, 0, 0, 0, 1), 0);
        Checks.due("plug", x.plug(4, 9, 255, 255, 9, 531440), 1);
        Checks.due("plug", x.plug(0, 9, 128, 1, 0, 2), 2);
        Look.plugIs(x, 0, 0, 0, 0, 0, 0, 0, 0, 1);
        Look.plugIs(x, 1, 0, 4, 9, 255, 255, 9, 10, 531440);
        Look.plugIs(x, 2, 0, 0, 9, 128, 1, 0, 9, 2);
        for (int p = 0; p < 3; p++) {
            Checks.due("tally at first", x.tally(p), 0);
            Checks.due("age at first", x.age(p), -1);
        }
    }

    /** "PLUG-INS have numbers, from 0 on, 12 at most": those that are gone count too. */
    private static void twelveAtMost() {
        PluginChains x = new PluginChains();
        for (int p = 0; p < 12; p++) {
            Checks.due("plug", x.plug(p % 5, 0, 0, 0, 0, 1 + p), p);
        }
        Checks.due("how many", x.status(0), 12);
        Checks.refused(x, "a thirteenth", -7, () -> x.plug(0, 0, 0, 0, 0, 20));
        for (int p = 0; p < 12; p++) {
            x.remove(p);
        }
        Checks.refused(x, "a thirteenth when all are gone", -7, () -> x.plug(0, 0, 0, 0, 0, 1));
        Checks.due("how many", x.status(0), 12);
        Checks.due("gone", x.status(3), 12);
        Checks.due("the last", x.plugOf(11, 7), 12);
        Checks.refused(x, "behind the last", -5, () -> x.plugOf(12, 7));
    }

    /** The same, some of them by plug() and some by read(). */
    private static void twelveWithTexts() {
        PluginChains x = new PluginChains();
        Checks.due("read", Make.read(x, "plug a 0 0;plug b 0 0;plug c 0 0;plug d 0 0;plug e 0 0"), 5);
        for (int p = 5; p < 11; p++) {
            Checks.due("plug", x.plug(0, 0, 0, 0, 0, 1 + p), p);
        }
        Checks.due("read two where one has room", Make.read(x, "plug y 0 0;plug z 0 0"), -6);
        Checks.due("fault", x.fault(), 11);
        Checks.due("how many", x.status(0), 11);
        Checks.due("read the twelfth", Make.read(x, "plug z 0 0"), 1);
        Checks.due("its name", x.plugOf(11, 7), 26);
        Checks.refused(x, "a thirteenth", -7, () -> x.plug(0, 0, 0, 0, 0, 25));
        Checks.due("read a thirteenth", Make.read(x, "plug y 0 0"), -6);
        Checks.due("fault", x.fault(), 0);
    }

    private static boolean isName(int name) {
        boolean letters = name > 0 && name < 27 * 27 * 27 * 27;
        for (int rest = name; rest > 0; rest /= 27) {
            letters &= rest % 27 != 0;
        }
        return letters;
    }

    /** "1 to 4 letters a to z", "its letters as digits in base 27, a 1, the first letter the highest". */
    private static void everyName() {
        PluginChains full = new PluginChains();
        int told = 0;
        for (int name = -30; name < 531441 + 3000; name++) {
            if (Math.floorMod(name, 400) == 0 || name == -30) {
                full = new PluginChains();
                for (int p = 0; p < 12; p++) {
                    full.plug(0, 0, 0, 0, 0, 1 + p);
                }
            }
            // a name that may be comes to -7 here, for there is no room
            boolean taken = name >= 1 && name <= 12;
            int due = isName(name) && !taken ? -7 : -6;
            if (full.plug(0, 0, 0, 0, 0, name) != due) {
                told++;
            }
        }
        Checks.due("names not answered as due", told, 0);
        for (String name : new String[] {"a", "z", "az", "za", "aaa", "zzz", "aaaa", "zzzz", "azaz", "bcde"}) {
            PluginChains x = new PluginChains();
            Checks.due("read " + name, Make.read(x, "plug " + name + " 0 0"), 1);
            Checks.due("its name", x.plugOf(0, 7), Make.name(name));
        }
    }

    /** "No two that aren't GONE have the same NAME": whatever else the state is. */
    private static void namesOfThoseThatAreNotGone() {
        PluginChains x = new PluginChains();
        Make.plug(x, 0, 0, "", "", 1, "a");
        Checks.refused(x, "the name of one idle", -6, () -> Make.plain(x, "a", "", ""));
        x.start(0);
        Checks.refused(x, "the name of one broken", -6, () -> Make.plain(x, "a", "", ""));
        x.mend(0);
        x.start(0);
        Checks.refused(x, "the name of one running", -6, () -> Make.plain(x, "a", "", ""));
        Checks.due("read it", Make.read(x, "plug a 0 0"), -6);
        Checks.due("fault", x.fault(), 5);
        x.remove(0);
        Checks.due("the name of one gone", Make.plain(x, "a", "", ""), 1);
        Checks.refused(x, "the name of one gone and one not", -6, () -> Make.plain(x, "a", "", ""));
        x.remove(1);
        Checks.due("read the name of two gone", Make.read(x, "plug a 0 0"), 1);
        Checks.refused(x, "the name of two gone and one not", -6, () -> Make.plain(x, "a", "", ""));
        Checks.due("how many", x.status(0), 3);
    }

    /** "PLAIN RANK. EAGER that and how many ... STEADY RANK, but 5 at least. KEEN ... twice. SOUND ... and 1." */
    private static void strengthsAtTheEdges() {
        int[][] due = {
            {0, 0, 0, 0, 5, 0, 6}, {0, 255, 0, 8, 5, 16, 6}, {4, 128, 4, 5, 5, 10, 6}, {5, 1, 5, 6, 5, 12, 6},
            {6, 0, 6, 6, 6, 12, 7}, {9, 0, 9, 9, 9, 18, 10}, {9, 255, 9, 17, 9, 34, 10},
        };
        for (int[] row : due) {
            PluginChains x = new PluginChains();
            for (int kind = 0; kind < 5; kind++) {
                x.plug(kind, row[0], 0, row[1], 0, 1 + kind);
                Checks.due("strength of kind " + kind, x.plugOf(kind, 6), row[2 + kind]);
            }
        }
    }

    private static int textDue(String text) {
        Matcher matcher = TEXT.matcher(text);
        if (matcher.matches()) {
            return -1;
        }
        for (int i = 0; i < text.length(); i++) {
            Matcher ahead = TEXT.matcher(text.substring(0, i + 1));
            if (!ahead.matches() && !ahead.hitEnd()) {
                return i;
            }
        }
        return text.length();
    }

    /** Reads the text from a row of ints, whatever its signs are. */
    private static void readsAsDue(String text) {
        PluginChains x = new PluginChains();
        x.row(3, 2, text.length());
        for (int i = 0; i < text.length(); i++) {
            x.set(3, i, text.charAt(i) == 0xFFFF ? -1 : text.charAt(i));
        }
        int due = textDue(text);
        int read = x.read(3);
        Checks.due("read of '" + text + "'", read < 0 ? read : 0, due == -1 ? 0 : -6);
        Checks.due("fault of '" + text + "'", x.fault(), due);
        Checks.due("plug-ins of '" + text + "'", x.status(0), due == -1 ? text.split(";").length : 0);
        Checks.due("refusals of '" + text + "'", x.status(16), due == -1 ? 0 : 1);
    }

    /** "(the number of elements, if it ends too early)": a text cut off at each place. */
    private static void textsThatEndTooEarly() {
        String text = "plug bcde 4 9-7+0!!+7;plug z 0 0;plug yy 1 5+3";
        for (int length = 0; length <= text.length(); length++) {
            readsAsDue(text.substring(0, length));
        }
        PluginChains x = new PluginChains();
        Make.read(x, "");
        Checks.due("the fault of nothing", x.fault(), 0);
        Make.read(x, "plug a 0 0;");
        Checks.due("the fault behind a ;", x.fault(), 11);
    }

    /** "the first place at which an element can't stand as such texts go on": each sign at each place. */
    private static void textsWithAnotherElement() {
        String text = "plug bcde 4 9-7+0!;plug z 0 0";
        for (int place = 0; place <= text.length(); place++) {
            for (char sign = 0; sign <= 256; sign++) {
                char other = sign == 256 ? 0xFFFF : sign;
                String ahead = text.substring(0, place) + other;
                readsAsDue(ahead + text.substring(Math.min(place + 1, text.length())));
                readsAsDue(ahead);
                if (place < text.length()) {
                    readsAsDue(ahead + text.substring(place));
                }
            }
        }
    }

    private static void faultIs(PluginChains x, String text, int due) {
        int plugs = x.status(0);
        Make.text(x, 7, text);
        Checks.countedOnly(x, "read of '" + text + "'", -6, () -> x.read(7));
        Checks.due("fault of '" + text + "'", x.fault(), due);
        Checks.due("plug-ins behind '" + text + "'", x.status(0), plugs);
    }

    /** "a NAME (1 to 4 letters a to z)" in a text: none, four, five, and signs next to a and z. */
    private static void namesOfOneToFourLetters() {
        PluginChains x = new PluginChains();
        faultIs(x, "plug  0 0", 5);
        faultIs(x, "plug abcde 0 0", 9);
        for (int place = 0; place < 4; place++) {
            String letters = "abcd".substring(0, place);
            faultIs(x, "plug " + letters + "` 0 0", 5 + place);
            faultIs(x, "plug " + letters + "{ 0 0", 5 + place);
            faultIs(x, "plug " + letters + "A 0 0", 5 + place);
        }
        Checks.due("four letters", Make.read(x, "plug zaza 0 0"), 1);
        Checks.due("one letter", Make.read(x, "plug z 0 0"), 1);
    }

    /** "! (a FAULT more; not a tenth)": the ninth is read, the tenth can't stand, in each ITEM anew. */
    private static void tenthFault() {
        PluginChains x = new PluginChains();
        Checks.due("nine, nine", Make.read(x, "plug a 0 0!!!!!!!!!;plug b 0 0!+1!!!!-1!!!!+1"), 2);
        Checks.due("faults", x.plugOf(0, 5), 9);
        Checks.due("faults", x.plugOf(1, 5), 9);
        faultIs(x, "plug c 0 0!!!!!!!!!!", 19);
        faultIs(x, "plug c 0 0!!!!!!!!!+1!", 21);
        faultIs(x, "plug c 0 0;plug d 0 0!!!!!!!!!!", 30);
        faultIs(x, "plug c 0 0!!!!!!!!!;plug d 0 0!!!!!!!!!!", 39);
        Checks.due("none", Make.read(x, "plug c 0 0+1"), 1);
        Checks.due("faults", x.plugOf(2, 5), 0);
    }

    /** "the same - S or + S may come again", "K, R, S one digit each". */
    private static void marksComeAgain() {
        PluginChains x = new PluginChains();
        Checks.due("read", Make.read(x, "plug a 2 0-0-0-7+7+7+0-7+0-0"), 1);
        Checks.due("needs", x.plugOf(0, 3), 129);
        Checks.due("offers", x.plugOf(0, 4), 129);
        Checks.due("read", Make.read(x, "plug b 0 0-0-1-2-3-4-5-6-7+0+1+2+3+4+5+6+7"), 1);
        Checks.due("needs", x.plugOf(1, 3), 255);
        Checks.due("offers", x.plugOf(1, 4), 255);
        faultIs(x, "plug c 0 0-8", 11);
        faultIs(x, "plug c 0 0+8", 11);
        faultIs(x, "plug c 0 0-/", 11);
        faultIs(x, "plug c 0 0-07", 12);
        faultIs(x, "plug c 5 0", 7);
        faultIs(x, "plug c / 0", 7);
        faultIs(x, "plug c 0 :", 9);
        faultIs(x, "plug c 0 /", 9);
        faultIs(x, "plug c 0 10", 10);
        faultIs(x, "plug c 00 0", 8);
    }

    /** "0 to 160 elements": a text of all of them, its last place, and one that ends too early there. */
    private static void longestText() {
        PluginChains x = new PluginChains();
        StringBuilder marks = new StringBuilder("plug a 0 0");
        for (int i = 0; i < 75; i++) {
            marks.append(i % 2 == 0 ? '-' : '+').append(i % 8);
        }
        Checks.due("read 160 elements", Make.read(x, marks.toString()), 1);
        Checks.due("needs", x.plugOf(0, 3), 0b01010101);
        Checks.due("offers", x.plugOf(0, 4), 0b10101010);
        marks.setCharAt(5, 'b');
        marks.setCharAt(159, '8');
        faultIs(x, marks.toString(), 159);
        marks.setCharAt(158, '!');
        marks.setCharAt(159, '+');
        faultIs(x, marks.toString(), 160);
        marks.setCharAt(159, ';');
        faultIs(x, marks.toString(), 160);
        StringBuilder items = new StringBuilder("plug b 0 0");
        for (char c = 'c'; c < 'm'; c++) {
            items.append(";plug ").append(c).append(c).append("cc 4 9");
        }
        Checks.due("read eleven more", Make.read(x, items.toString()), 11);
        Checks.due("how many", x.status(0), 12);
    }

    /** "of a NAME that there is already (in the TEXT, too) its first letter". */
    private static void namesThatThereAre() {
        PluginChains x = new PluginChains();
        Make.plain(x, "ab", "", "");
        faultIs(x, "plug ab 0 0", 5);
        faultIs(x, "plug a 0 0;plug ab 0 0", 16);
        faultIs(x, "plug a 0 0;plug a 0 0", 16);
        faultIs(x, "plug a 0 0;plug b 0 0;plug a 0 0", 27);
        faultIs(x, "plug a 0 0;plug b 0 0;plug b 0 0", 27);
        Checks.due("beginnings of it and what it begins", Make.read(x, "plug a 0 0;plug b 0 0;plug abc 0 0;plug ba 0 0"), 4);
    }

    /** "judged when the blank behind it has been read": what can't stand ahead of that is the fault. */
    private static void namesAreJudgedBehindTheBlank() {
        PluginChains x = new PluginChains();
        Make.plain(x, "ab", "", "");
        faultIs(x, "plug ab", 7);
        faultIs(x, "plug ab;", 7);
        faultIs(x, "plug ab0 0 0", 7);
        faultIs(x, "plug ab ", 5);
        faultIs(x, "plug ab 9", 5);
        faultIs(x, "plug c 0 0;plug c", 17);
        faultIs(x, "plug c 0 0;plug c;", 17);
        faultIs(x, "plug c 0 0;plug c ", 16);
        faultIs(x, "plug c 0 x;plug c ", 9);
    }

    /** "of an ITEM that there is no room for its p, judged when its plug has been read". */
    private static void itemsWithoutRoom() {
        PluginChains x = new PluginChains();
        for (int p = 0; p < 12; p++) {
            x.plug(0, 0, 0, 0, 0, 1 + p);
        }
        x.remove(11);
        faultIs(x, "", 0);
        faultIs(x, "p", 1);
        faultIs(x, "plu", 3);
        faultIs(x, "plux", 3);
        faultIs(x, "plug", 0);
        faultIs(x, "plugx", 0);
        faultIs(x, "plug a 0 0", 0);
        faultIs(x, "plug z 0 0", 0);
        PluginChains y = new PluginChains();
        StringBuilder text = new StringBuilder("plug a 0 0");
        for (char c = 'b'; c <= 'l'; c++) {
            text.append(";plug ").append(c).append(" 0 0");
        }
        String twelve = text.toString();
        faultIs(y, twelve + ";", 132);
        faultIs(y, twelve + ";plu", 135);
        faultIs(y, twelve + ";plug", 132);
        faultIs(y, twelve + ";plug a 0 0", 132);
        faultIs(y, twelve + "x;plug m 0 0", 131);
        Checks.due("read twelve", Make.read(y, twelve), 12);
        Checks.due("the last", y.plugOf(11, 7), 12);
    }

    /** "Each becomes a new PLUG-IN, or nothing of the TEXT holds." */
    private static void nothingOfTheTextHolds() {
        PluginChains x = new PluginChains();
        Make.plain(x, "a", "", "");
        Make.text(x, 0, "plug b 1 1+1;plug c 2 2!;plug a 0 0");
        String before = Dump.of(x);
        Checks.countedOnly(x, "read", -6, () -> x.read(0));
        Checks.due("fault", x.fault(), 30);
        Checks.same("all but the fault is as it was", Dump.of(x).replace("fault 30", "fault -1"), before);
        Checks.due("the names are free", Make.read(x, "plug c 0 3;plug b 0 4"), 2);
        Look.plugIs(x, 1, 0, 0, 3, 0, 0, 0, 3, 3);
        Look.plugIs(x, 2, 0, 0, 4, 0, 0, 0, 4, 2);
    }

    /** "The FAULT of the latest read() that came to a ROW; NONE: there was none, or none yet." */
    private static void theLatestFault() {
        PluginChains x = Make.withOneRunning();
        Checks.due("none yet", x.fault(), -1);
        x.read(0);
        Checks.due("none yet", x.fault(), -1);
        faultIs(x, "plug b 0", 8);
        x.show(0, 0);
        x.read(-1);
        x.read(8);
        x.read(0);
        x.read(1);
        Checks.due("no ROW was come to", x.fault(), 8);
        faultIs(x, "x", 0);
        Make.read(x, "plug b 0 0");
        Checks.due("there was none", x.fault(), -1);
    }

    /** "AGE: CLOCK (0 at first), which is 1 more then"; "NONE: it isn't RUNNING". */
    private static void agesAndTheClock() {
        PluginChains x = new PluginChains();
        Make.plug(x, 0, 0, "", "", 1, "a");
        Make.plain(x, "b", "", "");
        Checks.due("clock at first", x.status(5), 0);
        Checks.due("age of one idle", x.age(0), -1);
        x.start(0);
        Checks.due("age of one broken", x.age(0), -1);
        Checks.due("the clock stands", x.status(5), 0);
        x.start(1);
        Checks.due("the first age", x.age(1), 0);
        Checks.due("clock", x.status(5), 1);
        x.mend(0);
        x.start(0);
        Checks.due("the next age", x.age(0), 1);
        Checks.due("clock", x.status(5), 2);
        x.stop(0);
        Checks.due("the clock stands", x.status(5), 2);
        x.remove(1);
        Checks.due("age of one gone", x.age(1), -1);
        x.start(0);
        Checks.due("an age is not used again", x.age(0), 2);
    }

    /** "all numbers wrapping", "TALLY (0 at first)". */
    private static void talliesWrap() {
        PluginChains x = Make.withOneRunning();
        x.hook(0, 0, 0, 6, 0);
        x.fire(0, Look.MOST);
        Checks.due("tally", x.tally(0), Look.MOST);
        x.fire(0, 1);
        Checks.due("tally above the greatest", x.tally(0), Look.LEAST);
        x.fire(0, -1);
        Checks.due("tally below the least", x.tally(0), Look.MOST);
        x.fire(0, Look.LEAST);
        Checks.due("tally", x.tally(0), -1);
        Checks.due("tally of none", x.tally(1), 0);
        Checks.due("tally of none", x.tally(12), 0);
        Checks.due("tally of none", x.tally(Look.LEAST), 0);
        Checks.due("tally of none", x.tally(Look.MOST), 0);
    }

    /** "NONE: it isn't RUNNING or doesn't NEED that": the first and the last service and plug-in. */
    private static void providersAtTheEdges() {
        PluginChains x = new PluginChains();
        x.plug(0, 0, 0, 129, 0, 1);
        for (int p = 1; p < 12; p++) {
            x.plug(0, 0, 129, 0, 0, 1 + p);
        }
        Checks.due("of one idle", x.provider(11, 0), -1);
        Checks.due("start", x.start(11), 2);
        Checks.due("service 0", x.provider(11, 0), 0);
        Checks.due("service 7", x.provider(11, 7), 0);
        for (int service = 1; service < 7; service++) {
            Checks.due("one not needed", x.provider(11, service), -1);
        }
        Checks.due("one that it offers itself", x.provider(0, 0), -1);
        Checks.due("of one idle", x.provider(10, 7), -1);
        x.remove(11);
        Checks.due("of one gone", x.provider(11, 7), -1);
    }

    /** "to a PROVIDER: another one RUNNING, OLDER, that OFFERS it": not itself, no younger one. */
    private static void boundToOlderOnes() {
        PluginChains x = new PluginChains();
        Make.plug(x, 0, 1, "", "0", 0, "a");
        Make.plug(x, 0, 5, "0", "0", 0, "b");
        Make.plug(x, 0, 9, "", "0", 0, "c");
        Make.plug(x, 0, 9, "", "0", 0, "d");
        Make.plug(x, 0, 0, "0", "", 0, "e");
        x.start(0);
        x.start(1);
        x.start(3);
        x.start(2);
        x.start(4);
        Checks.due("not to itself, though it is stronger", x.provider(1, 0), 0);
        Checks.due("to the strongest, the oldest of two", x.provider(4, 0), 3);
        x.stop(3);
        Checks.due("bound anew to the next of that strength", x.provider(4, 0), 2);
        x.stop(2);
        Checks.due("bound anew to the weaker one", x.provider(4, 0), 1);
        x.start(2);
        Checks.due("not to one that is younger", x.provider(4, 0), 1);
        Checks.due("the last one's end takes both along", x.stop(0), 3);
        Checks.due("what was younger runs on", x.status(1), 1);
    }
}
