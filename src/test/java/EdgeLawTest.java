/** The edges of THE LAW and of STRIDE. In wrong texts ^ stands ahead of the first wrong byte. */
public final class EdgeLawTest {
    public static void main(String[] args) {
        inPlace();
        twelveLines();
        numbers();
        numbersOfSums();
        digits();
        comparing();
        joining();
        gapOfOne();
        howManyMet();
        hearing();
        strideBounds();
        stops();
        sixDeep();
        words();
        noLine();
        moreMustCome();
        fourHundredBytes();
        Check.end("EdgeLawTest");
    }

    private static void wrong(String marked) {
        Check.markedLaw(new PromenadeRing(), marked);
    }

    private static void right(String text, int lines) {
        PromenadeRing ring = new PromenadeRing();
        Check.due("law \"" + text + "\"", String.valueOf(lines), Check.outcome(() -> Check.law(ring, text)));
        Check.due("count(3)", lines, ring.count(3));
    }

    /** STRIDE of WALKER 0 by a law. */
    private static void stride(PromenadeRing ring, String law, int due) {
        Check.law(ring, law);
        Check.due("STRIDE by \"" + law + "\"", due, ring.walker(0, 7));
    }

    private static void holds(PromenadeRing ring, String condition, boolean due) {
        stride(ring, "stop;stop if " + condition, 0);
        stride(ring, "stop if " + condition, due ? 0 : ring.walker(0, 1));
        stride(ring, "stop if not (" + condition + ")", due ? ring.walker(0, 1) : 0);
    }

    private static void inPlace() {
        Check.says("THE LAW (a text, in place of the one before)");
        PromenadeRing ring = Check.ring("walker at 0 pace 10");
        Check.says("3 LINES of THE LAW (NONE without one)");
        Check.due("LINES without one", -1, ring.count(3));
        Check.says("`int law() throws IllegalArgumentException`: Uses the TAPE up: THE LAW: how many LINES. IllegalArgumentException: the text is wrong.");
        stride(ring, "haste 5;haste 6;haste 7", 28);
        stride(ring, "slow 1", 9);
        Check.due("LINES", 1, ring.count(3));
        Check.markedLaw(ring, "haste 50;haste ^100");
        Check.due("a wrong one is none", 9, ring.walker(0, 7));
        Check.due("LINES still", 1, ring.count(3));
        stride(ring, "", 10);
        Check.due("LINES of an empty one", 0, ring.count(3));
    }

    private static void twelveLines() {
        Check.says("LINE { ; LINE }, at most 12");
        right("stop", 1);
        right(Check.lines("slow 1", 12), 12);
        right(Check.lines("stop", 12) + "   ", 12);
        wrong(Check.lines("slow 1", 12) + ";^slow 1");
        wrong(Check.lines("slow 1", 12) + " ;  ^stop");
        wrong(Check.lines("slow 1", 12) + ";^");
        wrong(Check.lines("slow 1", 12) + ";  ^");
        wrong(Check.lines("slow 1", 12) + ";^tax");
        PromenadeRing ring = Check.ring("walker at 0 pace 0");
        stride(ring, Check.lines("haste 1", 11) + ";haste 50", 61);
    }

    private static void numbers() {
        Check.says("All numbers are of 1 to 3 digits (N 0 to 99).");
        right("slow 0;slow 99;haste 0;haste 99", 4);
        wrong("slow ^100");
        wrong("haste ^100");
        wrong("haste ^999");
        PromenadeRing ring = Check.ring("long 200;walker at 0 pace 99");
        stride(ring, "haste 99", 198);
        stride(ring, "haste 0", 99);
        stride(ring, "slow 0", 99);
        stride(ring, "slow 98", 1);
        stride(ring, "slow 99", 0);
    }

    private static void numbersOfSums() {
        Check.says("PART: NUMBER | walker | at | pace | gap | met | rounds | hats");
        right("stop if 0 < 999", 1);
        wrong("stop if ^1000 < 5");
        wrong("stop if 5 > ^1000");
        wrong("stop if 5 + ^1000 > 5");
        PromenadeRing ring = Check.ring("walker at 0 pace 5");
        Check.says("SUM: PART { + PART }");
        holds(ring, "998 < 999", true);
        holds(ring, "999 < 999", false);
        holds(ring, "999 + 999 > 999 + 998", true);
        holds(ring, "0 < 1", true);
        holds(ring, "0 > 0", false);
    }

    private static void digits() {
        Check.says("All numbers are of 1 to 3 digits");
        right("slow 099 if 007 < 010", 1);
        right("slow 000", 1);
        wrong("slow ^0000");
        wrong("haste ^0099");
        wrong("stop if ^0005 < 6");
        wrong("stop if 5 < ^0006");
        wrong("stop if 5 < 5 + ^99999999999");
    }

    private static void comparing() {
        Check.says("SUM < SUM | SUM > SUM");
        PromenadeRing ring = Check.ring("walker at 7 pace 9");
        holds(ring, "at < 7", false);
        holds(ring, "at < 8", true);
        holds(ring, "at > 7", false);
        holds(ring, "at > 6", true);
        holds(ring, "at + 2 < pace", false);
        holds(ring, "at + 3 > pace", true);
        holds(ring, "walker < 1", true);
        holds(ring, "walker > 0", false);
        wrong("stop if 5 ^= 5");
        wrong("stop if 5 <^= 5");
        wrong("stop if 5 < 6 ^< 7");
    }

    private static void joining() {
        Check.says("C: ALL { or ALL }; ALL: ATOM { and ATOM }; ATOM: not ATOM | ( C ) | black | misty | hears");
        PromenadeRing ring = Check.ring("walker at 50 pace 9 black");
        holds(ring, "black", true);
        holds(ring, "misty", false);
        holds(ring, "hears", false);
        holds(ring, "not hears", true);
        holds(ring, "not misty", true);
        holds(ring, "black or misty and hears", true);
        holds(ring, "(black or misty) and hears", false);
        holds(ring, "misty and hears or black", true);
        holds(ring, "misty and (hears or black)", false);
        holds(ring, "not misty and hears", false);
        holds(ring, "not (misty and hears)", true);
        holds(ring, "misty or hears or 1 > 2", false);
        holds(ring, "misty or hears or 2 > 1", true);
        holds(ring, "black and 2 > 1 and hears", false);
    }

    private static void gapOfOne() {
        Check.says("gap: GAP to the one just ahead (LONG without one)");
        PromenadeRing alone = Check.ring("long 200;walker at 5 pace 9");
        holds(alone, "gap > 199", true);
        holds(alone, "gap > 200", false);
        PromenadeRing two = Check.ring("long 200;walker at 5 pace 9;walker at 4 pace 9");
        holds(two, "gap > 198", true);
        holds(two, "gap > 199", false);
        PromenadeRing same = Check.ring("long 200;walker at 5 pace 9;walker at 6 pace 9;walker at 5 pace 9");
        holds(same, "gap < 1", true);
    }

    private static void howManyMet() {
        Check.says("met: how many it MET");
        PromenadeRing ring = Check.ring("walker at 0 pace 60;walker at 5 pace 0;walker at 6 pace 0;walker at 6 pace 0;"
            + "walker at 10 pace 0;walker at 59 pace 0;walker at 60 pace 0");
        holds(ring, "met < 1", true);
        Check.law(ring, "");
        Check.due("by six", 6, ring.hours(1));
        holds(ring, "met > 5", true);
        holds(ring, "met > 6", false);
        holds(ring, "hats > 5", true);
        holds(ring, "hats > 6", false);
        holds(ring, "rounds > 0", false);
    }

    private static void hearing() {
        Check.says("hears: it is less than 10 yards behind the BAND, or there");
        int[] behind = {0, 1, 9, 10, 11, 99};
        boolean[] hears = {true, true, true, false, false, false};
        for (int band : new int[] {50, 3, 0, 99}) {
            for (int i = 0; i < behind.length; i++) {
                int at = Math.floorMod(band - behind[i], 100);
                PromenadeRing ring = Check.ring("band " + band + ";walker at " + at + " pace 5");
                holds(ring, "hears", hears[i]);
            }
        }
        for (int at = 0; at < 10; at++) {
            holds(Check.ring("long 10;band 4;walker at " + at + " pace 5"), "hears", true);
        }
        holds(Check.ring("long 11;band 4;walker at 5 pace 5"), "hears", false);
    }

    private static void strideBounds() {
        Check.says("else PACE and the sum of N of all haste LINES that hold, less that of all slow LINES: 0 at least, LONG less 1 at most.");
        PromenadeRing ring = Check.ring("long 60;walker at 0 pace 50");
        stride(ring, "haste 8", 58);
        stride(ring, "haste 9", 59);
        stride(ring, "haste 10", 59);
        stride(ring, "slow 49", 1);
        stride(ring, "slow 50", 0);
        stride(ring, "slow 51", 0);
        stride(ring, "haste 99;slow 99", 50);
        stride(ring, "slow 99;haste 99", 50);
        stride(ring, "slow 99;slow 99;haste 99;haste 99;slow 1", 49);
        stride(ring, "haste 99 if 2 > 3;slow 99 if black;haste 1", 51);
        stride(ring, Check.lines("slow 99", 12), 0);
        stride(ring, Check.lines("haste 99", 12), 59);
        Check.law(ring, "");
        for (int pace : new int[] {59, 60, 99}) {
            ring.pace(0, pace);
            Check.due("by PACE " + pace, 59, ring.walker(0, 7));
        }
        PromenadeRing ten = Check.ring("long 10;walker at 0 pace 8;walker at 0 pace 9;walker at 0 pace 10");
        Check.due("8 of 10", 8, ten.walker(0, 7));
        Check.due("9 of 10", 9, ten.walker(1, 7));
        Check.due("10 of 10", 9, ten.walker(2, 7));
    }

    private static void stops() {
        Check.says("STRIDE: 0, if some stop LINE holds");
        PromenadeRing ring = Check.ring("walker at 0 pace 50");
        stride(ring, "stop", 0);
        stride(ring, "stop;haste 99", 0);
        stride(ring, "haste 99;haste 99;stop", 0);
        stride(ring, "stop if misty;haste 1;stop if black", 51);
        stride(ring, "stop if misty;haste 1;stop if not black", 0);
        Check.due("it stands", 0, ring.where(0, 200));
    }

    private static void sixDeep() {
        Check.says("( and not within one another at most 6 deep.");
        right("stop if " + "not ".repeat(6) + "black", 1);
        right("stop if " + "(".repeat(6) + "black" + ")".repeat(6), 1);
        right("stop if not (not (not (black)))", 1);
        right("stop if " + "((((((black)))))) and ((((((black)))))) or not not not not not not misty", 1);
        right("stop if (black) and (black) and (black) and (black) and (black) and (black) and (black) and (black)", 1);
        right("stop if not black and not black and not black and not black and not black and not black and not black", 1);
        right("stop if (((((5 < 6 and (black))))))", 1);
        right("stop if (((((black and not misty)))))", 1);
        Check.says("the ( or not that is a 7th one deep");
        wrong("stop if " + "not ".repeat(6) + "^not black");
        wrong("stop if " + "(".repeat(6) + "^(black" + ")".repeat(7));
        wrong("stop if not (not (not (^not black)))");
        wrong("stop if not (not (not (^(black))))");
        wrong("stop if ((((((black and ^(misty)))))))");
        wrong("stop if ((((((black or ^not misty))))))");
        wrong("stop if " + "not ".repeat(6) + "^(black)");
        wrong("stop if (black) or " + "(".repeat(6) + "^not");
        PromenadeRing ring = Check.ring("walker at 50 pace 9 black");
        stride(ring, "stop if " + "not ".repeat(6) + "black", 0);
        stride(ring, "stop if " + "not ".repeat(5) + "black", 9);
        stride(ring, "stop if ((((((black or misty and misty))))))", 0);
        stride(ring, "stop if misty or misty and (1 > 2 + 3 or misty and (1 > 2 + 3 or misty and (1 > 2 + 3 or misty and "
            + "(1 > 2 + 3 or misty and (1 > 2 + 3 or misty and (1 > 2 + 3 or misty)))))) or black", 0);
    }

    private static void words() {
        Check.says("Words are as long as a to z go on");
        String[] lines = {"^slow 5", "^haste 5", "^stop", "stop ^if black", "stop if ^black", "stop if ^misty", "stop if ^hears",
            "stop if ^not misty", "stop if ^walker < 5", "stop if ^at < 5", "stop if ^pace < 5", "stop if ^gap < 5", "stop if ^met < 5",
            "stop if ^rounds < 5", "stop if ^hats < 5", "stop if 5 < ^hats", "stop if 5 < 5 + ^walker", "stop if black ^and misty",
            "stop if black ^or misty"};
        for (String marked : lines) {
            int begin = marked.indexOf('^');
            String line = marked.replace("^", "");
            right(line, 1);
            for (int i = begin; i < line.length() && line.charAt(i) >= 'a'; i++) {
                wrong(line.substring(0, begin) + "^" + line.substring(begin, i) + "q" + line.substring(i + 1));
            }
        }
        wrong("^stopif black");
        wrong("stop ^iff black");
        wrong("slow 5 ^unless black");
        wrong("stop if black ^an misty");
        wrong("stop if black ^ore misty");
        wrong("stop if ^notblack");
        wrong("stop if ^ifblack");
        right("stop if(black)and(misty)or(hears)", 1);
        right("slow5if at+5<6", 1);
        right("  stop   if   not   (  5  <  6  +  7  )  ", 1);
    }

    private static void noLine() {
        Check.says("A text that is empty, or blanks alone, has no LINE");
        right("", 0);
        right(" ", 0);
        right(" ".repeat(400), 0);
        wrong("^;");
        wrong("stop;^;stop");
        wrong("stop;^");
    }

    private static void moreMustCome() {
        Check.says("or the text's length, if more must come");
        for (String line : new String[] {"slow^", "haste^", "stop if^", "slow 5 if^", "stop if not^", "stop if (^", "stop if (black^",
            "stop if black and^", "stop if black or^", "stop if 5^", "stop if 5 <^", "stop if 5 >^", "stop if 5 +^", "stop if 5 < 6 +^",
            "stop if at^", "stop if ((black)^", "stop if (black and^", "stop;^", "stop if black;^", "stop if (5 < 6^"}) {
            wrong(line);
            wrong(line.replace("^", "  ^"));
        }
    }

    private static void fourHundredBytes() {
        Check.says("if it would have more than 400");
        PromenadeRing ring = Check.ring("walker at 0 pace 9");
        // "stop if 1+1+..+1<195": 194 times 1 and 195.
        String ones = "stop if 1" + "+1".repeat(193);
        stride(ring, ones + "<195", 0);
        stride(ring, ones + "<194", 9);
        Check.due("so long", 399, (ones + "<195").length());
        stride(ring, ones + "<195 ", 0);
        stride(ring, ones + " <195", 0);
        Check.markedLaw(ring, ones + "  <^");
        String ors = "stop if misty" + " or misty".repeat(42);
        stride(ring, ors + " or 2>1", 0);
        stride(ring, ors + " or 1>2", 9);
        Check.markedLaw(ring, ors + " ".repeat(400 - ors.length() - 1) + "^x");
        stride(ring, ors + " ".repeat(400 - ors.length() - 8) + "or black", 9);
        String ands = "stop if 2>1" + " and 2>1".repeat(48);
        stride(ring, ands, 0);
        stride(ring, ands.substring(0, ands.length() - 3) + "1>2", 9);
    }
}
