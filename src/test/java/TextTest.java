/** Promises 4 to 6: promenade, law, fault. In texts here ^ stands ahead of the first wrong byte. */
public final class TextTest {
    public static void main(String[] args) {
        rightPromenades();
        wrongPromenades();
        promenadeLimits();
        twelveTexts();
        rightLaws();
        wrongLaws();
        lawInPlace();
        faults();
        Check.end("TextTest");
    }

    private static void rightPromenades() {
        PromenadeRing ring = new PromenadeRing();
        Check.due("empty", 1, Check.promenade(ring, ""));
        Check.due("blanks", 2, Check.promenade(ring, "   "));
        Check.due("long", 3, Check.promenade(ring, "  band 99 ; long 060  ;mist 100;hour 999;misty "));
        Check.due("LONG", 60, ring.count(4));
        Check.due("the BAND is at the last PLACE", 59, ring.count(5));
        Check.due("HOUR", 999, ring.count(6));
        Check.due("MISTY", 1, ring.count(7));
        Check.due("long twice", 4, Check.promenade(ring, "band 9;long 10;long 200"));
        Check.due("the BAND stays", 9, ring.count(5));
        Check.due("without blanks", 5, Check.promenade(ring, "long20;walker at19pace99black;walker at 0 pace 0;shuns0 1;shuns 1 0"));
        Check.due("WALKERS", 2, ring.count(0));
        Check.due("at", 19, ring.walker(0, 0));
        Check.due("pace", 99, ring.walker(0, 1));
        Check.due("black", 1, ring.walker(0, 3));
        Check.due("not black", 0, ring.walker(1, 3));
        Check.due("shuns", 2, ring.walker(0, 2));
        Check.due("shuns 1", 1, ring.walker(1, 2));
        Check.due("shelters", 6, Check.promenade(ring, "shelter at 0 seats 1;shelter at 19 seats 3;shuns 0 1"));
        Check.due("SHELTERS", 2, ring.count(1));
        Check.due("seats", 3, ring.shelter(1, 1));
        Check.due("texts", 6, ring.count(2));
        Check.due("the least", 7, Check.promenade(ring, "band 0;hour 0;mist 0"));
        Check.due("HOUR 0", 0, ring.count(5) + ring.count(6));
        Check.due("14 LINES", 8, Check.promenade(ring, Check.lines("hour 1", 14)));
    }

    private static void wrongPromenades() {
        PromenadeRing ring = new PromenadeRing();
        String[] texts = {
            "long ^9", "long ^201", "long ^1000", "long ^0100", "long^", "long   ^", "long ^x", "^Long 50", "^lonG 50", "long^G 50",
            "^longs 50", "^longz 50", "^zlong 50", "^clock", "^;", "^5", " ^lung 50",
            "long 50;^", "long 50 ; ^", "long 50 ^60", "long 50^,", "long 50;^;long 60",
            "walker ^pace 5", "walker at ^100 pace 5", "walker at 5 ^at", "walker at 5 pace ^100", "walker at 5 pace 5 ^white",
            "walker at 5 pace 5 black ^black", "walker at 5^", "walker at 5 pace^", "walker at 5 pace 5 ^5", "walker^",
            "^walkerat 5 pace 5", "walker at 5 pace 5;^long 50", "shelter at 5 seats 1;^long 50",
            "shuns ^0 1", "walker at 0 pace 0;shuns ^1 0", "walker at 0 pace 0;shuns 0 ^1", "walker at 0 pace 0;shuns 0 ^0",
            "walker at 0 pace 0;shuns 0^", "walker at 0 pace 0;shuns 0 ^;", "walker at 0 pace 0;shuns ^-1 0",
            "walker at 0 pace 0;shuns 0 ^00", "walker at 0 pace 0;shuns 0 ^0000",
            "shelter at ^100 seats 1", "shelter at 0 seats ^0", "shelter at 0 seats ^4", "shelter at 0 ^pace 1", "shelter ^0",
            "band ^100", "band^", "mist ^101", "mist ^y", "misty ^1", "hour ^1000", "hour 1;^",
            "long 20;walker at ^20 pace 1", "long 20;band ^20", "^black", "^stop", "hour 1 ^\n", "^\t",
        };
        for (String text : texts) {
            Check.markedPromenade(ring, text);
        }
        int[] due = {0, 0, 0, -1, 100, 0, 0, 0};
        for (int what = 0; what < due.length; what++) {
            Check.due("of wrong texts nothing stays: count(" + what + ")", due[what], ring.count(what));
        }
    }

    private static void promenadeLimits() {
        PromenadeRing ring = new PromenadeRing();
        Check.markedPromenade(ring, Check.lines("hour 1", 14) + ";^hour 1");
        Check.markedPromenade(ring, Check.lines("hour 1", 14) + ";^7");
        Check.markedPromenade(ring, Check.lines("hour 1", 14) + "; ^");
        Check.markedPromenade(ring, Check.lines("walker at 0 pace 1", 7) + ";^walker at 0 pace 1");
        Check.markedPromenade(ring, Check.lines("shelter at 0 seats 1", 4) + ";^shelter at 0 seats 1");
        Check.due("seven", 1, Check.promenade(ring, Check.lines("walker at 0 pace 1", 7)));
        Check.markedPromenade(ring, "^walker at 0 pace 1");
        Check.markedPromenade(ring, "hour 5;^walker");
        Check.due("the HOUR of a wrong text", 0, ring.count(6));
        Check.due("four", 2, Check.promenade(ring, Check.lines("shelter at 0 seats 1", 4)));
        Check.markedPromenade(ring, "^shelter at 0 seats 1");
        PromenadeRing out = new PromenadeRing();
        out.out(1);
        Check.markedPromenade(out, "^long 50");
    }

    private static void twelveTexts() {
        PromenadeRing ring = new PromenadeRing();
        for (int i = 1; i <= 12; i++) {
            Check.due("text " + i, i, Check.promenade(ring, "hour " + i));
        }
        ring.out(3);
        Check.unsupported("a 13th text", () -> Check.promenade(ring, "hour 99"));
        Check.due("its TAPE was used up", 20, ring.feed(0, 0, 0, 0, 0));
        Check.due("nothing of it stays", 12, ring.count(6));
        Check.due("texts", 12, ring.count(2));
        Check.due("the ACT is remembered", 1, ring.count(10));
        Check.markedPromenade(ring, "hour ^1000");
        Check.due("a law is no such text", 1, Check.law(ring, "stop"));
    }

    private static void rightLaws() {
        PromenadeRing ring = new PromenadeRing();
        String deep = "(((((( black ))))))";
        String[] texts = {
            "", "  ", "stop", " slow 99 ; haste 0", "stop if black", "stop if not not not not not not black",
            "stop if " + deep + " or " + deep + " and not misty", "stop if not(not(not(hears)))",
            "slow5if at+pace+gap<met+rounds+hats+walker+999", "haste 5 if 1<2 and 2>1 or misty", Check.lines("stop", 12),
            "slow 007 if 000 < 999", "stop if (black)and(misty)or(hears)",
        };
        int[] lines = {0, 0, 1, 2, 1, 1, 1, 1, 1, 1, 12, 1, 1};
        for (int i = 0; i < texts.length; i++) {
            Check.due("law \"" + texts[i] + "\"", lines[i], Check.law(ring, texts[i]));
            Check.due("count(3) then", lines[i], ring.count(3));
            Check.due("fault() then", -1, ring.fault());
        }
    }

    private static void wrongLaws() {
        PromenadeRing ring = new PromenadeRing();
        String[] texts = {
            "slow^", "slow ^100", "slow ^0005", "slow ^if black", "haste 5 if^", "haste 5 ^black", "stop ^5", "^tax", "^if", "stop;^",
            "stop ^stop", "stop if 5 ^black", "stop if met^", "stop if met ^=", "stop if 5 < ^",
            "stop if 5 < 6 ^< 7", "stop if 5 + ^< 7", "stop if 5 < ^black", "stop if black ^< 5", "stop if (black^",
            "stop if (black ^;", "stop if black^)", "stop if (^)", "stop if not^", "stop if black and^",
            "stop if black or ^or black", "stop if black ^black", "stop if black ^not misty", "stop if ^1000 < 5", "stop if 5 > ^0001",
            "stop if black ^if misty", "stop if (at + 5^) < 6", "stop if black ^+ 5",
            "stop if not not not not not not ^not black", "stop if ((((((^(black)))))))",
            "stop if not (not (not (^not black)))", "stop if not (not ( not (black and ^(misty))))", "stop if not (not (black and (misty)))^)",
            "stop if ^seats < 5", "stop if ^long > 3", "slow 5 ^IF black", "slow ^-5", "stop if at^-5 < 3", "^walker at 0 pace 1",
            "stop if ^mist", "stop if hears and(misty or black^",
        };
        for (String text : texts) {
            Check.markedLaw(ring, text);
        }
        Check.markedLaw(ring, Check.lines("stop", 12) + ";^stop");
        Check.markedLaw(ring, Check.lines("stop", 12) + ";^");
        Check.due("no law stays", -1, ring.count(3));
    }

    private static void lawInPlace() {
        PromenadeRing ring = Check.ring("walker at 0 pace 10");
        Check.law(ring, "slow 3;haste 1");
        Check.due("by the law", 8, ring.walker(0, 7));
        Check.markedLaw(ring, "haste 50;^halt");
        Check.due("a wrong one changes nothing", 8, ring.walker(0, 7));
        Check.due("nor its LINES", 2, ring.count(3));
        Check.law(ring, "haste 5");
        Check.due("in place of the one before", 15, ring.walker(0, 7));
        Check.law(ring, "");
        Check.due("an empty one", 10, ring.walker(0, 7));
        Check.due("is one", 0, ring.count(3));
    }

    private static void faults() {
        PromenadeRing ring = new PromenadeRing();
        Check.markedPromenade(ring, "long ^9");
        ring.out(5);
        Check.put(ring, 0, 1, 2);
        Check.argument("rows are no text", ring::ask);
        Check.due("the latest text's", 5, ring.fault());
        ring.undo();
        ring.image();
        ring.back();
        Check.due("it is not undone", 5, ring.fault());
        Check.law(ring, "stop");
        Check.due("a right law", -1, ring.fault());
        Check.markedLaw(ring, "stop ^now");
        Check.promenade(ring, " ");
        Check.due("a right text", -1, ring.fault());
    }
}
