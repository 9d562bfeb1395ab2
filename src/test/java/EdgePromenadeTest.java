/** The edges of texts of THE PROMENADE. In wrong texts ^ stands ahead of the first wrong byte. */
public final class EdgePromenadeTest {
    public static void main(String[] args) {
        twelveTexts();
        fourteenLines();
        longOnlyOfNobody();
        bandWithinLong();
        places();
        shunsOfTwo();
        hours();
        digits();
        words();
        blanks();
        bytes();
        noLine();
        cannotStandThere();
        tooMany();
        moreMustCome();
        nothingStays();
        fourHundredBytes();
        faults();
        Check.end("EdgePromenadeTest");
    }

    private static void right(PromenadeRing ring, String text) {
        Check.nothingThrown("promenade \"" + text + "\"", () -> Check.promenade(ring, text));
        Check.due("fault then", -1, ring.fault());
    }

    private static void wrong(String marked) {
        Check.markedPromenade(new PromenadeRing(), marked);
    }

    private static void twelveTexts() {
        Check.says("THE PROMENADE is told in texts (at most 12, one behind another)");
        PromenadeRing ring = new PromenadeRing();
        for (int n = 1; n <= 12; n++) {
            Check.due("so many there are", n, Check.promenade(ring, n % 2 == 0 ? "" : "hour " + n));
            Check.due("count(2)", n, ring.count(2));
        }
        Check.says("IllegalArgumentException: it is wrong; UnsupportedOperationException: there are 12.");
        Check.unsupported("a right one", () -> Check.promenade(ring, "hour 77"));
        Check.unsupported("an empty one", () -> Check.promenade(ring, ""));
        Check.markedPromenade(ring, "hour 77;^x");
        Check.due("HOUR of the 11th", 11, ring.count(6));
        Check.due("twelve", 12, ring.count(2));
        Check.says("Uses the TAPE up: a text of THE PROMENADE: how many there are.");
        PromenadeRing tried = new PromenadeRing();
        for (int n = 0; n < 20; n++) {
            Check.markedPromenade(tried, "^x");
        }
        Check.due("wrong ones are none", 1, Check.promenade(tried, "hour 1"));
        for (int n = 0; n < 20; n++) {
            Check.law(tried, "stop");
        }
        Check.due("laws are none", 2, Check.promenade(tried, "hour 1"));
    }

    private static void fourteenLines() {
        Check.says("LINE { ; LINE }, at most 14");
        PromenadeRing ring = new PromenadeRing();
        right(ring, "hour 1");
        right(ring, Check.lines("hour 1", 13) + ";mist 33");
        Check.due("the 14th counts", 3300, ring.odds(1, 1));
        wrong(Check.lines("hour 1", 14) + ";^hour 1");
        wrong(Check.lines("hour 1", 14) + " ;   ^misty");
        wrong(Check.lines("hour 1", 14) + ";^");
        wrong(Check.lines("hour 1", 14) + ";  ^");
        wrong(Check.lines("hour 1", 14) + ";^;");
        wrong(Check.lines("misty", 14) + "^,misty");
        right(ring, Check.lines("misty", 14) + "  ");
        Check.due("14 behind 14 of another text", 4, Check.promenade(ring, Check.lines("hour 1", 14)));
    }

    private static void longOnlyOfNobody() {
        Check.says("long: just as long as there are neither WALKERS nor SHELTERS, else it is wrong at the word");
        PromenadeRing ring = Check.ring("band 5;mist 5;misty;hour 5;long 50");
        right(ring, "long 60;long 70");
        Check.due("the latest", 70, ring.count(4));
        Check.markedPromenade(ring, "walker at 0 pace 0;^long 50");
        Check.markedPromenade(ring, "shelter at 0 seats 1; ^long 50");
        Check.markedPromenade(ring, "walker at 0 pace 0;^long 999");
        Check.markedPromenade(ring, "walker at 0 pace 0;^long");
        right(ring, "long 80");
        right(ring, "long 90;shelter at 89 seats 1");
        Check.markedPromenade(ring, "^long 90");
        PromenadeRing out = new PromenadeRing();
        out.out(1);
        Check.markedPromenade(out, "  ^long 50");
        out.undo();
        right(out, "long 50");
        Check.due("nobody again", 50, out.count(4));
        PromenadeRing back = new PromenadeRing();
        back.image();
        right(back, "walker at 0 pace 0");
        Check.markedPromenade(back, "^long 50");
        back.back();
        right(back, "long 50");
    }

    private static void bandWithinLong() {
        Check.says("the BAND is at the last PLACE then, if its own is none any more");
        Check.due("just a PLACE", 49, Check.ring("band 49;long 50").count(5));
        Check.due("just none", 49, Check.ring("band 50;long 50").count(5));
        Check.due("far from one", 9, Check.ring("band 99;long 10").count(5));
        Check.due("0 stays", 0, Check.ring("long 10").count(5));
        Check.due("it does not come back", 9, Check.ring("band 99;long 10;long 200").count(5));
        PromenadeRing ring = Check.ring("band 99");
        Check.markedPromenade(ring, "long 10;^x");
        Check.due("a wrong text does not move it", 99, ring.count(5));
    }

    private static void places() {
        Check.says("at: a PLACE");
        PromenadeRing ring = Check.ring("long 20;walker at 19 pace 0;shelter at 19 seats 1;walker at 0 pace 0;shelter at 0 seats 1");
        Check.due("the last PLACE", 19, ring.walker(0, 0));
        Check.due("the last PLACE of a SHELTER", 19, ring.shelter(0, 0));
        Check.markedPromenade(ring, "walker at ^20 pace 0");
        Check.markedPromenade(ring, "shelter at ^20 seats 1");
        wrong("walker at ^100 pace 0");
        wrong("shelter at ^100 seats 1");
        wrong("long 200;walker at 199 pace 0;walker at ^200 pace 0");
    }

    private static void shunsOfTwo() {
        Check.says("shuns: the first WALKER the second one, two that there are by then and not one, else it is wrong at the second one");
        PromenadeRing ring = Check.ring("walker at 0 pace 0;walker at 0 pace 0;shuns 0 1;shuns 1 0;shuns 0 1");
        Check.due("the first one", 2, ring.walker(0, 2));
        Check.due("the second one", 1, ring.walker(1, 2));
        Check.markedPromenade(ring, "shuns 0 ^2");
        Check.markedPromenade(ring, "shuns 1 ^1");
        Check.markedPromenade(ring, "shuns 0 ^000");
        Check.markedPromenade(ring, "shuns 0 ^999");
        Check.markedPromenade(ring, "shuns ^2 0");
        Check.markedPromenade(ring, "shuns ^2 2");
        Check.markedPromenade(ring, "shuns 0 ^2;walker at 0 pace 0");
        right(ring, "walker at 0 pace 0;shuns 0 2;shuns 2 001");
        Check.due("one of the same text", 6, ring.walker(0, 2));
        Check.due("by one of the same text", 2, ring.walker(2, 2));
        PromenadeRing seven = Check.ring(Check.lines("walker at 0 pace 0", 7));
        right(seven, "shuns 6 0;shuns 0 6");
        Check.due("of seven", 64, seven.walker(0, 2));
        Check.markedPromenade(seven, "shuns 0 ^7");
        Check.markedPromenade(seven, "shuns ^7 0");
    }

    private static void hours() {
        Check.says("hour 0 to 999.");
        Check.due("the least", 0, Check.ring("hour 5;hour 0").count(6));
        Check.due("the most", 999, Check.ring("hour 999").count(6));
        wrong("hour ^1000");
        wrong("hour ^9999");
    }

    private static void digits() {
        Check.says("Numbers are of 1 to 3 digits.");
        Check.due("two with a 0", 7, Check.ring("hour 07").count(6));
        Check.due("three with two", 7, Check.ring("hour 007").count(6));
        Check.due("three of 0", 0, Check.ring("hour 000").count(6));
        for (String line : new String[] {"long ^0050", "walker at ^0000 pace 0", "walker at 0 pace ^0001", "shelter at ^0001 seats 1",
            "shelter at 0 seats ^0001", "band ^0001", "mist ^0001", "hour ^0001", "hour ^00000000000000000001", "hour ^4294967297",
            "walker at 0 pace 0;shuns ^0000 1", "walker at 0 pace 0;walker at 0 pace 0;shuns 0 ^0001"}) {
            wrong(line);
        }
    }

    private static void words() {
        Check.says("Words are as long as a to z go on");
        right(new PromenadeRing(), "walker at0pace0black;walker at0pace0;shuns0 1;shelter at0seats1;band0;mist0;hour0;misty");
        for (String line : new String[] {"^walkerat 0 pace 0", "walker ^atx 0 pace 0", "walker at 0 ^pacey 0", "walker at 0 pace 0 ^blacks",
            "^mistymisty", "^longlong 50", "^mis ty", "^mistyz", "^amisty", "^zmisty", "^z", "^a", "shelter at 0 ^seat 1"}) {
            wrong(line);
        }
        String[] lines = {"long 50", "walker at 0 pace 0", "shuns 0 1", "shelter at 0 seats 1", "band 0", "mist 0", "misty", "hour 0"};
        for (String line : lines) {
            int length = line.indexOf(' ') < 0 ? line.length() : line.indexOf(' ');
            for (int i = 0; i < length; i++) {
                wrong("^" + line.substring(0, i) + "q" + line.substring(i + 1));
            }
        }
        // A capital letter, and what is just ahead of a and just behind z, end a word and cannot stand there.
        for (char sign : new char[] {'`', '{', 'A', 'Z', '@', '['}) {
            wrong("misty^" + sign);
            wrong("^" + sign + "misty");
        }
        for (char sign : new char[] {'/', ':', '-', '.'}) {
            wrong("hour 5^" + sign);
            wrong("hour ^" + sign + "5");
        }
    }

    private static void blanks() {
        Check.says("between all there may be blanks (32), also ahead and behind");
        PromenadeRing ring = Check.ring("   walker   at  5   pace  6   black  ;   walker at 7 pace 8;  shuns  0   1   ");
        Check.due("black", 1, ring.walker(0, 3));
        Check.due("shuns", 2, ring.walker(0, 2));
        Check.due("the other one", 7, ring.walker(1, 0));
        wrong("hour 1 ^2");
        wrong("hour ^\t5");
        wrong("^\nmisty");
        wrong("misty^\r");
    }

    private static void bytes() {
        Check.says("the begin of the first thing that cannot stand there");
        for (int sign = 0; sign < 256; sign++) {
            boolean canStand = sign == ' ' || sign == '^';
            if (!canStand && sign != ';') {
                wrong("misty ^" + (char) sign);
            }
            if (!canStand) {
                wrong(" ^" + (char) sign);
            }
        }
        wrong("misty;^");
    }

    private static void noLine() {
        Check.says("A text that is empty, or blanks alone, has no LINE");
        PromenadeRing ring = new PromenadeRing();
        Check.due("empty", 1, Check.promenade(ring, ""));
        Check.due("a blank", 2, Check.promenade(ring, " "));
        Check.due("400 blanks", 3, Check.promenade(ring, " ".repeat(400)));
        Check.due("fault", -1, ring.fault());
        wrong("^;");
        wrong("  ^;  ");
        wrong("misty;^;misty");
    }

    private static void cannotStandThere() {
        Check.says("(a number of more digits, or out of its bounds, or that tells none that can be; a word that is none");
        for (String line : new String[] {"hour ^1234", "mist ^101", "band ^100", "long ^201", "walker at 0 pace 0;shuns 0 ^1",
            "shuns ^0 1", "^clock", "^stop", "^black", "^at", "walker ^0", "walker at ^pace", "walker at 0 ^0", "shelter at 0 ^pace 1",
            "long ^long", "hour ^;", "misty ^misty", "misty ^5", "^5", "walker at 0 pace 0 black ^5", "walker at 0 pace 0 ^misty"}) {
            wrong(line);
        }
        wrong("long ^9;long 9");
        wrong("hour 1;hour ^1000;clock");
    }

    private static void tooMany() {
        Check.says("of a LINE, a WALKER, a SHELTER too many, the first word");
        wrong(Check.lines("walker at 0 pace 0", 7) + ";^walker at 0 pace 0");
        wrong(Check.lines("walker at 0 pace 0", 7) + " ;  ^walker at 999");
        wrong(Check.lines("walker at 0 pace 0", 7) + ";^walker");
        wrong(Check.lines("shelter at 0 seats 1", 4) + ";^shelter at 0 seats 1");
        wrong(Check.lines("shelter at 0 seats 1", 4) + ";^shelter at");
        wrong(Check.lines("misty", 14) + ";^misty");
        wrong(Check.lines("misty", 14) + "; ^clock");
        right(new PromenadeRing(), Check.lines("walker at 0 pace 0", 7) + ";" + Check.lines("shelter at 0 seats 1", 4));
    }

    private static void moreMustCome() {
        Check.says("or the text's length, if more must come");
        for (String line : new String[] {"long^", "walker^", "walker at^", "walker at 5^", "walker at 5 pace^", "shelter^", "shelter at^",
            "shelter at 5^", "shelter at 5 seats^", "band^", "mist^", "hour^", "misty;^", "shuns^",
            "walker at 0 pace 0;walker at 0 pace 0;shuns^", "walker at 0 pace 0;walker at 0 pace 0;shuns 0^"}) {
            wrong(line);
            wrong(line.replace("^", "   ^"));
        }
    }

    private static void nothingStays() {
        Check.says("Of a wrong text nothing stays.");
        PromenadeRing ring = Check.ring("band 7;mist 5;hour 3");
        String before = Picture.of(ring);
        String all = "long 50;walker at 1 pace 1 black;walker at 2 pace 2;shuns 0 1;shelter at 1 seats 1;band 9;mist 100;misty;hour 99";
        Check.markedPromenade(ring, all + ";^x");
        Check.markedPromenade(ring, all + ";^");
        Check.due("as ahead of it", before.replace("fault -1", "fault " + (all.length() + 1)), Picture.of(ring));
        Check.due("LONG can be told", 2, Check.promenade(ring, "long 50"));
    }

    private static void fourHundredBytes() {
        Check.says("if it would have more than 400");
        PromenadeRing ring = new PromenadeRing();
        right(ring, "misty" + " ".repeat(395));
        right(ring, " ".repeat(395) + "misty");
        right(ring, " ".repeat(392) + "hour 999");
        Check.due("HOUR", 999, ring.count(6));
        Check.markedPromenade(ring, " ".repeat(391) + "hour ^1000");
        Check.markedPromenade(ring, " ".repeat(396) + "hour^");
        Check.markedPromenade(ring, "misty" + " ".repeat(394) + ";^");
        Check.markedPromenade(ring, " ".repeat(399) + "^x");
    }

    private static void faults() {
        Check.says("The first wrong byte of the latest text that was read; NONE without one, and ahead of any.");
        PromenadeRing ring = new PromenadeRing();
        Check.due("ahead of any", -1, ring.fault());
        Check.markedPromenade(ring, "^x");
        Check.markedPromenade(ring, "misty ^x");
        Check.put(ring, 1, 2, 3);
        Check.argument("rows are no text", () -> ring.backs(-1));
        Check.due("the latest text's", 6, ring.fault());
        Check.markedLaw(ring, "stop if ^x");
        Check.law(ring, "stop");
        Check.due("of a right law", -1, ring.fault());
        Check.markedLaw(ring, "^x");
        Check.promenade(ring, "");
        Check.due("of a right text", -1, ring.fault());
    }
}
