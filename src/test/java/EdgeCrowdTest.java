/** The edges of games and of all together: CHASE, COUPLES, RESTS, ODDS, BLACK ones, STRETCH and what follows, TRIAL, SPAN. */
public final class EdgeCrowdTest {
    public static void main(String[] args) {
        chase();
        couplesAtMost();
        couplesFirst();
        couplesNone();
        couplesAgain();
        rests();
        odds();
        black();
        stretch();
        fastest();
        popular();
        twins();
        shunned();
        share();
        bunch();
        trial();
        span();
        Check.end("EdgeCrowdTest");
    }

    private static void chase() {
        Check.says("in how many turns, both at their best, at most T; none, if he does not.");
        PromenadeRing ring = new PromenadeRing();
        Check.due("no turn", -1, ring.chase(1, 0));
        for (int t = 1; t <= 20; t++) {
            Check.due("1 yard and " + t + " turns", 1, ring.chase(1, t));
        }
        Check.says("then he, seeing it, goes 2 or 4 yards, but if he went 4 the turn ahead, then 2 alone (at first he may); he has her, "
            + "when the gap is 0 or less behind his going");
        // She goes 3 yards each turn: 4 yards of his make a gap of 2 one of 1, the 2 that must follow 2 again.
        for (int g = 2; g <= 40; g++) {
            Check.due(g + " yards", -1, ring.chase(g, 20));
        }
        Check.due("40 yards and no turn", -1, ring.chase(40, 0));
        Check.says("CHASE of a gap G (1 to 40) and T (0 to 20) turns");
        Check.argument("0 yards", () -> ring.chase(0, 5));
        Check.argument("41 yards", () -> ring.chase(41, 5));
        Check.argument("-1 turns", () -> ring.chase(5, -1));
        Check.argument("21 turns", () -> ring.chase(5, 21));
        Check.argument("both", () -> ring.chase(0, 21));
    }

    private static void row(String what, PromenadeRing ring, int... due) {
        int paired = 0;
        for (int w = 0; w < due.length; w++) {
            Check.due(what + ": couples(" + w + ")", due[w], ring.couples(w));
            paired += due[w] >= 0 ? 1 : 0;
        }
        Check.due(what + ": pairs", paired / 2, ring.couples(-1));
    }

    private static void couplesAtMost() {
        Check.says("no two of whom one SHUNS the other one, so that there are as many pairs as can be and, of such, the lesser GAPS from one to "
            + "the other one and back, of all pairs together, are the least");
        row("two as far as can be", Check.ring("walker at 0 pace 0;walker at 50 pace 0"), 1, 0);
        row("the first one SHUNS", Check.ring("walker at 0 pace 0;walker at 0 pace 0;shuns 0 1"), -1, -1);
        row("the second one SHUNS", Check.ring("walker at 0 pace 0;walker at 0 pace 0;shuns 1 0"), -1, -1);
        row("both SHUN", Check.ring("walker at 0 pace 0;walker at 0 pace 0;shuns 1 0;shuns 0 1"), -1, -1);
        row("the nearest of three", Check.ring("walker at 0 pace 0;walker at 40 pace 0;walker at 41 pace 0"), -1, 2, 1);
        row("the nearest over PLACE 0", Check.ring("walker at 3 pace 0;walker at 7 pace 0;walker at 99 pace 0;walker at 50 pace 0;shuns 3 0;shuns 3 1;shuns 3 2"), 1, 0, -1, -1);
        row("nearer over PLACE 0 by 1", Check.ring("walker at 2 pace 0;walker at 7 pace 0;walker at 98 pace 0"), 2, -1, 0);
        // 1 and 2 are at one PLACE, but two pairs are more than one.
        row("more pairs", Check.ring("walker at 0 pace 0;walker at 50 pace 0;walker at 50 pace 0;walker at 99 pace 0;shuns 0 3"), 1, 0, 3, 2);
        // 0 and 3 alone may go with 1 and 2: 10 and 10 yards, or 30 and 30.
        row("all together", Check.ring("walker at 0 pace 0;walker at 30 pace 0;walker at 10 pace 0;walker at 40 pace 0;shuns 0 3;shuns 1 2"), 2, 3, 0, 1);
    }

    private static void couplesFirst() {
        Check.says("with whom one is in the first such way (one by one, the others by numbers, none behind all); none.");
        row("three alike", Check.ring(Check.lines("walker at 0 pace 0", 3)), 1, 0, -1);
        row("seven alike", Check.ring(Check.lines("walker at 0 pace 0", 7)), 1, 0, 3, 2, 5, 4, -1);
        row("three as far from each other", Check.ring("long 30;walker at 0 pace 0;walker at 10 pace 0;walker at 20 pace 0"), 1, 0, -1);
        row("0 SHUNS all", Check.ring("walker at 0 pace 0;walker at 0 pace 0;walker at 0 pace 0;walker at 0 pace 0;shuns 0 1;shuns 0 2;shuns 0 3"), -1, 2, 1, -1);
        row("the last two alone may", Check.ring(Check.lines("walker at 0 pace 0", 4) + ";shuns 0 1;shuns 0 2;shuns 0 3;shuns 1 2;shuns 3 1"), -1, -1, 3, 2);
    }

    private static void couplesNone() {
        Check.says("COUPLES: how many pairs (walker NONE), or with whom one is; NONE.");
        row("nobody", new PromenadeRing());
        row("one", Check.ring("walker at 0 pace 0"), -1);
        Check.index("no WALKER of nobody", () -> new PromenadeRing().couples(0));
        Check.index("below NONE", () -> new PromenadeRing().couples(-2));
    }

    private static void couplesAgain() {
        Check.says("COUPLES: how many pairs (walker NONE), or with whom one is; NONE.");
        PromenadeRing ring = Check.ring("walker at 10 pace 0;walker at 50 pace 0");
        row("two", ring, 1, 0);
        ring.out(0);
        row("three", ring, 2, -1, 0);
        ring.undo();
        row("two again", ring, 1, 0);
        ring.shun(1, 0, true);
        row("none any more", ring, -1, -1);
    }

    private static void rests() {
        Check.says("choices (2 times the first one's and the other one's) from which neither would have more by its other one: as bits.");
        Check.says("both raising each has 2; who raises alone has 0 less HATS by 10, rounded down, less 1, the other one 1; both looking away "
            + "each has 0, but 1 less who is not in BLACK");
        // Both raising is 2 to 1 of who looks away; both looking away is 0 or -1, and raising alone -1 at most.
        PromenadeRing ring = Check.ring("long 10;walker at 5 pace 0;walker at 0 pace 9 black;walker at 5 pace 0 black;walker at 5 pace 0");
        for (int hours : new int[] {1, 8, 1, 1, 200, 200, 200, 200, 200, 200}) {
            for (int w = 0; w < 4; w++) {
                for (int o = 0; o < 4; o++) {
                    if (w != o) {
                        Check.due("of " + w + " and " + o, 9, ring.rests(w, o));
                    }
                }
            }
            ring.hours(hours);
        }
        Check.due("with HATS at the most", 999, ring.walker(0, 4));
        Check.due("then, too", 9, ring.rests(0, 1));
    }

    private static void odds() {
        Check.says("ODDS of N HOURS (0 to 5) and K (0 to 5): that it is MISTY behind K of them at least, each alike, in ten thousandths, rounded down.");
        int[][] cases = {{40, 0, 0, 10000}, {40, 0, 1, 0}, {40, 0, 5, 0}, {40, 5, 0, 10000}, {40, 1, 1, 4000}, {40, 1, 2, 0}, {40, 4, 5, 0},
            {40, 5, 5, 102}, {0, 5, 0, 10000}, {0, 5, 1, 0}, {0, 0, 0, 10000}, {100, 5, 5, 10000}, {100, 0, 1, 0}, {100, 4, 5, 0},
            {1, 5, 5, 0}, {1, 5, 1, 490}, {1, 1, 1, 100}, {1, 2, 2, 1}, {1, 3, 3, 0}, {99, 5, 1, 9999}, {99, 1, 1, 9900}, {99, 5, 5, 9509},
            {50, 5, 5, 312}, {50, 5, 1, 9687}, {50, 5, 3, 5000}, {33, 2, 1, 5511}, {10, 4, 4, 1}, {10, 5, 5, 0}};
        for (int[] row : cases) {
            PromenadeRing ring = Check.ring("mist " + row[0]);
            Check.due("MIST " + row[0] + " odds(" + row[1] + ", " + row[2] + ")", row[3], ring.odds(row[1], row[2]));
        }
        Check.due("MISTY now does not count", 0, Check.ring("misty").odds(5, 1));
    }

    private static void black() {
        Check.says("BLACK ones, as bits");
        Check.due("nobody", 0, new PromenadeRing().black());
        Check.due("none", 0, Check.ring("walker at 0 pace 0").black());
        Check.due("seven", 127, Check.ring(Check.lines("walker at 0 pace 0 black", 7)).black());
        Check.due("the last one", 64, Check.ring(Check.lines("walker at 0 pace 0", 6) + ";walker at 0 pace 0 black").black());
    }

    private static void stretch() {
        Check.says("STRETCH: the least GAP from the PLACE of one in BLACK so that no one in BLACK is at a greater GAP from there (0 without).");
        Check.due("nobody", 0, new PromenadeRing().stretch());
        Check.due("none in BLACK", 0, Check.ring("walker at 0 pace 0;walker at 50 pace 0").stretch());
        Check.due("one in BLACK", 0, Check.ring("walker at 0 pace 0;walker at 50 pace 0 black").stretch());
        Check.due("two at one PLACE", 0, Check.ring("walker at 9 pace 0 black;walker at 9 pace 0 black").stretch());
        Check.due("two over PLACE 0", 1, Check.ring("walker at 0 pace 0 black;walker at 99 pace 0 black").stretch());
        Check.due("half round", 50, Check.ring("walker at 0 pace 0 black;walker at 50 pace 0 black").stretch());
        Check.due("not one who is not in BLACK", 10, Check.ring("walker at 95 pace 0 black;walker at 90 pace 0;walker at 5 pace 0 black;walker at 6 pace 0").stretch());
        Check.due("three, over PLACE 0", 20, Check.ring("walker at 5 pace 0 black;walker at 90 pace 0 black;walker at 10 pace 0 black").stretch());
        Check.due("seven round", 60, Check.ring("long 70;walker at 0 pace 0 black;walker at 10 pace 0 black;walker at 20 pace 0 black;"
            + "walker at 30 pace 0 black;walker at 40 pace 0 black;walker at 50 pace 0 black;walker at 60 pace 0 black").stretch());
    }

    private static void fastest() {
        Check.says("FASTEST, SLOWEST by STRIDE (of several the least, if it is 0, too; none without WALKERS).");
        Check.says("FASTEST (most true), or SLOWEST; NONE.");
        Check.due("nobody", -1, new PromenadeRing().fastest(true));
        Check.due("nobody, the slowest", -1, new PromenadeRing().fastest(false));
        PromenadeRing ring = Check.ring("walker at 0 pace 5;walker at 0 pace 0;walker at 0 pace 9;walker at 0 pace 0;walker at 0 pace 9");
        Check.due("of several", 2, ring.fastest(true));
        Check.due("of several who stand", 1, ring.fastest(false));
        Check.law(ring, "stop");
        Check.due("all stand", 0, ring.fastest(true));
        Check.due("all stand, the slowest", 0, ring.fastest(false));
        Check.law(ring, "haste 99;haste 99");
        Check.due("all at the most", 0, ring.fastest(true));
        Check.due("all at the most, the slowest", 0, ring.fastest(false));
        Check.law(ring, "stop if walker < 4");
        Check.due("the last one", 4, ring.fastest(true));
        Check.law(ring, "haste 20;stop if walker > 3");
        Check.due("the last one is the slowest", 4, ring.fastest(false));
    }

    private static void popular() {
        Check.says("`int popular()`: POPULAR; NONE.");
        Check.due("nobody", -1, new PromenadeRing().popular());
        Check.says("POPULAR: who MET the most (of several the least, if it is none, too; none without WALKERS).");
        PromenadeRing ring = Check.ring("walker at 50 pace 0;walker at 60 pace 0;walker at 0 pace 50");
        Check.due("none MET", 0, ring.popular());
        ring.hours(1);
        Check.due("two MET one each", 0, ring.popular());
        ring.hours(1);
        Check.due("the last one MET two", 2, ring.popular());
    }

    private static void twins() {
        Check.says("TWINS: pairs of WALKERS of like PACE and PLACE.");
        Check.due("nobody", 0, new PromenadeRing().twins());
        Check.due("one", 0, Check.ring("walker at 9 pace 9").twins());
        Check.due("seven", 21, Check.ring(Check.lines("walker at 9 pace 9", 7)).twins());
        Check.due("the first and the last", 1, Check.ring("walker at 9 pace 9;walker at 8 pace 9;walker at 9 pace 8;walker at 9 pace 9 black").twins());
        PromenadeRing ring = Check.ring("walker at 9 pace 9;walker at 9 pace 9");
        Check.law(ring, "stop if walker > 0");
        Check.due("by PACE, not by STRIDE", 1, ring.twins());
    }

    private static void shunned() {
        Check.says("SHUNNED of one: by whom it is, as bits.");
        PromenadeRing ring = Check.ring(Check.lines("walker at 9 pace 9", 7) + ";shuns 0 6;shuns 5 6;shuns 6 0");
        Check.due("by two", 33, ring.walker(6, 12));
        Check.due("by the last one", 64, ring.walker(0, 12));
        Check.due("by none", 0, ring.walker(5, 12));
        for (int w = 0; w < 6; w++) {
            ring.shun(w, 6, true);
        }
        Check.due("by all others", 63, ring.walker(6, 12));
        Check.due("it SHUNS one", 1, ring.walker(6, 2));
    }

    private static void share() {
        Check.says("SHARE of a WALKER of HATS of all, in hundredths, rounded down (0 without).");
        PromenadeRing ring = Check.ring("walker at 50 pace 0;walker at 50 pace 0;walker at 50 pace 0;walker at 0 pace 50;walker at 20 pace 0 black");
        ring.shun(4, 0, true);
        for (int w = 0; w < 5; w++) {
            Check.due("without HATS: " + w, 0, ring.walker(w, 13));
        }
        // 3 comes by the three at 50 and by the one at 20: 1, 1, 1, 4, 1 of 8.
        ring.hours(1);
        int[] due = {12, 12, 12, 50, 12};
        for (int w = 0; w < 5; w++) {
            Check.due("of eight: " + w, due[w], ring.walker(w, 13));
        }
        PromenadeRing three = Check.ring("walker at 50 pace 0;walker at 50 pace 0;walker at 50 pace 0;walker at 0 pace 50");
        three.hours(1);
        Check.due("one of six", 16, three.walker(0, 13));
        Check.due("three of six", 50, three.walker(3, 13));
    }

    private static void bunch() {
        Check.says("BUNCH of E (0 to 199): the most WALKERS whose GAP from the PLACE of some WALKER is E at most (that one, too; 0 without WALKERS).");
        Check.due("nobody", 0, new PromenadeRing().bunch(199));
        Check.due("one", 1, Check.ring("walker at 9 pace 0").bunch(0));
        PromenadeRing round = Check.ring("long 200;walker at 0 pace 0;walker at 199 pace 0;walker at 100 pace 0");
        Check.due("no yard", 1, round.bunch(0));
        Check.due("one yard over PLACE 0", 2, round.bunch(1));
        Check.due("not three by 99", 2, round.bunch(99));
        Check.due("three by 100", 3, round.bunch(100));
        Check.due("three by the most", 3, round.bunch(199));
        Check.due("seven at one PLACE", 7, Check.ring(Check.lines("walker at 9 pace 9", 7)).bunch(0));
        Check.due("from WALKER 0 alone", 2, Check.ring("walker at 0 pace 0;walker at 5 pace 0;walker at 50 pace 0").bunch(5));
        Check.due("not from behind", 1, Check.ring("walker at 0 pace 0;walker at 5 pace 0;walker at 50 pace 0").bunch(4));
    }

    private static void trial() {
        Check.says("TRIAL of N HOURS (0 to 200) from now (draws, too; nothing stays): HATS of all together then; behind how many of these N HOURS it was MISTY.");
        PromenadeRing ring = Check.ring("long 10;walker at 0 pace 9;walker at 1 pace 0;mist 100;misty");
        Check.due("none", 0, ring.trial(0, false));
        Check.due("none, though it is MISTY now", 0, ring.trial(0, true));
        Check.due("one", 2, ring.trial(1, false));
        Check.due("one MISTY", 1, ring.trial(1, true));
        // 0 comes by 1 in nine HOURS of ten.
        Check.due("200", 360, ring.trial(200, false));
        Check.due("200 MISTY", 200, ring.trial(200, true));
        Check.due("nobody", 0, new PromenadeRing().trial(200, false));
        ring.hours(200);
        Check.due("HATS of now", 360, ring.trial(0, false));
        Check.due("with those that come", 720, ring.trial(200, false));
        PromenadeRing never = Check.ring("misty");
        Check.due("MISTY now alone", 0, never.trial(200, true));
    }

    /** 0 comes by 1 in each HOUR in which it was not MISTY just before: 2 HATS each, up to nine HOURS. */
    private static PromenadeRing stoppedByMist(int mist) {
        PromenadeRing ring = Check.ring("long 10;walker at 0 pace 9;walker at 1 pace 0;mist " + mist);
        Check.law(ring, "stop if misty");
        ring.seed(77);
        return ring;
    }

    private static void span() {
        Check.says("SPAN: the least and the greatest HATS of all so from SEED 1, 2, .. 6.");
        // DRAWS modulo 100 from SEED 1 to 7: 38 58 13 15 51 27 10; 8 17 39 14 37 95 76; 47 7 65 12 22 96 73; 17 66 91 11 7 96 38;
        // 55 57 16 77 93 64 4; 26 15 42 76 78 65 69; 64 6 68 74 31 65 34; from SEED 0: 0 68 88 17 98 27 45.
        Check.due("from SEED 6 alone no DRAW of seven is below 11", 16, stoppedByMist(11).span(8, true));
        Check.due("from each other one a DRAW of seven is", 14, stoppedByMist(11).span(8, false));
        Check.due("from SEED 1 alone six DRAWS are below 59", 2, stoppedByMist(59).span(7, false));
        Check.due("from SEED 7 the first is not below 56", 2, stoppedByMist(56).span(2, true));
        Check.due("from SEED 7 and 0 one of two is below 7", 6, stoppedByMist(7).span(3, false));
        Check.due("from SEED 0 one of two is not below 67", 2, stoppedByMist(67).span(3, true));
        PromenadeRing ring = stoppedByMist(11);
        Check.due("of no HOUR", 0, ring.span(0, false));
        Check.due("of no HOUR, the greatest", 0, ring.span(0, true));
        Check.due("SEED stays", 77, ring.seed(77));
        ring.hours(1);
        Check.due("of now", 2, ring.span(0, false));
        Check.due("of nobody", 0, new PromenadeRing().span(200, true));
        PromenadeRing clear = Check.ring("long 10;walker at 0 pace 9;walker at 1 pace 0");
        Check.due("of 200 HOURS", 360, clear.span(200, false));
        Check.due("of 200 HOURS, the greatest", 360, clear.span(200, true));
    }
}
