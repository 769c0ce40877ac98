/** Term 2, NUMBERS: each sentence that names a boundary of numbers, truths, the tree, random, defs and moves. */
public final class Term2NumbersTest {
    private static final String ITEMS = "thing a \"A\" { in r; } thing b \"B\" { in a; } thing c \"C\" { in a; open; } thing d \"D\" {} "
            + "var x = 5; array t[3]; def add() { x = x + 1; } def same(n) { return n; } def tell(n) { say n; return n; } ";
    private static final String LEAST = "(-32767 - 1)";

    public static void main(String[] args) {
        comeRound();
        cutTowardsZero();
        precedence();
        truths();
        notLookedAt();
        leftToRight();
        tree();
        in();
        here();
        nounAndSecond();
        random();
        randomSeeds();
        defs();
        varsAndLets();
        whiles();
        moves();
        movesOfAll();
        removes();
        attributes();
        tellings();
        Bench.end();
    }

    private static void worth(String expression, String due) {
        Bench.same(expression, "1 " + due, Bench.worth(ITEMS, expression));
    }

    private static void going(String statements, String due) {
        Bench bench = Bench.playing("room r \"R\" {} room q \"Q\" {} " + ITEMS + "on wait { " + statements + " done; }");
        Bench.same(statements, "1 " + due, bench.play("z"));
        Bench.same("sound behind " + statements, true, bench.house.sound());
    }

    private static void comeRound() {
        Bench.about("Term 2: numbers are -32768 .. 32767, and come round beyond (also a - before 32768)");
        worth("32767, \" \", -32767, \" \", -32767 - 1", "32767 -32767 -32768");
        worth("32767 + 1, \" \", 32767 + 32767", "-32768 -2");
        worth(LEAST + " - 1, \" \", " + LEAST + " - 32767, \" \", " + LEAST + " + " + LEAST, "32767 1 0");
        worth("0 - " + LEAST + ", \" \", -" + LEAST, "-32768 -32768");
        worth("256 * 128, \" \", 256 * 256, \" \", 300 * 300, \" \", 32767 * 32767, \" \", " + LEAST + " * " + LEAST, "-32768 0 24464 1 0");
        worth("-256 * 129, \" \", " + LEAST + " * -1, \" \", 181 * 181 + 6", "32512 -32768 32767");
        worth(LEAST + " / -1, \" \", " + LEAST + " % -1, \" \", " + LEAST + " / 1, \" \", " + LEAST + " / " + LEAST, "-32768 0 -32768 1");
        worth("32767 + 1 == " + LEAST + ", 32767 + 1 < 0", "11");
        going("x = 32767; x = x + 1; say x; t[0] = x - 1; say \" \", t[0]; let y = t[0] + 2; say \" \", y, \" \", same(y - 2);",
                "-32768 32767 -32767 32767");
    }

    private static void cutTowardsZero() {
        Bench.about("Term 2: / and % cut towards 0");
        worth("7 / 2, \" \", -7 / 2, \" \", 7 / -2, \" \", -7 / -2", "3 -3 -3 3");
        worth("7 % 3, \" \", -7 % 3, \" \", 7 % -3, \" \", -7 % -3", "1 -1 1 -1");
        worth("1 / 2, -1 / 2, 0 / 5, 0 % 5, 5 / 5, 5 % 5", "000010");
        worth("32767 / -32767, \" \", 32767 % -2, \" \", " + LEAST + " / 2, \" \", " + LEAST + " % 3", "-1 1 -16384 -2");
    }

    private static void precedence() {
        Bench.about("Term 1: what stands closer together (or, and, not, comparison, sum, term, factor, primary)");
        worth("1 + 2 * 3, \" \", 2 * 3 + 1, \" \", 10 - 3 - 2, \" \", 100 / 5 / 2, \" \", 7 % 4 * 2, \" \", 2 * 7 % 4", "7 7 5 10 6 2");
        worth("-2 * 3, \" \", - - 2, \" \", 3 - -2, \" \", -2 - 3, \" \", -(2 - 3)", "-6 2 5 -5 1");
        worth("1 or 0 and 0, (1 or 0) and 0, not 0 and 0, not (0 and 0), not 1 == 2, not 1 or 1, 0 and 0 or 1", "1001111");
        worth("1 + 1 == 2, 2 == 1 + 1, 1 < 1 + 1, 2 * 2 >= 4, 1 == 1 and 2 == 2, 1 == 2 or 2 == 2", "111111");
        worth("holder b + 1, \" \", holder holder b, \" \", first r in r, next c in a", "4 2 11");
    }

    private static void truths() {
        Bench.about("Term 2: a truth is 1 or 0");
        worth("1 == 1, 1 == 2, 1 != 2, 1 != 1, 1 < 2, 2 < 2, 2 < 1, 1 <= 2, 2 <= 2, 3 <= 2", "1010100110");
        worth("2 > 1, 2 > 2, 1 > 2, 2 >= 1, 2 >= 2, 1 >= 2, -1 < 0, -1 > 0, -5 < -4, 32767 > -32767", "1001101011");
        worth("not 0, not 1, not 5, not -1, not not 5, not not 0", "100010");
        worth("5 and 6, 5 and -1, 5 and 0, 0 and 5, 0 and 0, 5 or 0, 0 or -7, 5 or 6, 0 or 0", "110001110");
        worth("5 and 6 and 7, 5 and 6 and 0, 0 or 0 or 9, 0 or 0 or 0, 5 and 0 or 3, 0 or 5 and 3", "101011");
        worth("c has open, b has open, b in a, a in b", "1010");
        Bench.about("Term 2: what is not 0 is true");
        going("if -1 { say 1; } if 2 { say 2; } if 0 { say 3; } if " + LEAST + " { say 4; } if 256 { say 5; } if 1 - 1 { say 6; } else { say 7; }", "12457");
        going("let i = -2; while i { say i; i = i + 1; } say i;", "-2-10");
    }

    private static void notLookedAt() {
        Bench.about("Term 2: and, or don't look at the right side when the left one tells");
        worth("0 and tell(7), 1 or tell(8)", "01");
        worth("1 and tell(7), 0 or tell(8)", "7181");
        worth("0 and 1 / 0, 1 or 1 / 0, -1 or holder 0, 0 and t[9], 0 and 0 and 1 / 0, 0 and 1 / 0 or 1", "011001");
        worth("1 or tell(1) and tell(0), 0 and tell(1) or tell(2), (0 or tell(0)) and tell(3)", "12100");
        going("if 0 and tell(1) { } if 1 or tell(2) { say 3; }", "3");
    }

    private static void leftToRight() {
        Bench.about("Term 2: all else goes from the left to the right");
        worth("tell(1) + tell(2) * tell(3), tell(4) - tell(5)", "123745-1");
        worth("tell(2) * tell(3) + tell(1), tell(1) == tell(2), tell(1) < tell(2), tell(3) in 0", "231712012130");
        worth("x + same(add() + x), x, x - same(add() + x)", "116-1");
        going("t[tell(1)] = tell(2); move tell(5) to tell(4); say tell(tell(4)), tell(5);", "125444455");
    }

    private static void tree() {
        Bench.about("Term 2: holder x: what x is in, 0 for none; first x, next x, 0 if there is none");
        worth("holder a, holder b, holder c, holder d, holder r, holder player", "233002");
        worth("first r, first a, first b, first c, first d, first player", "350000");
        worth("next a, next c, next b, next d, next r, next player", "140000");
    }

    private static void in() {
        Bench.about("Term 2: x in y: whether the holder of x is y (which may be any number)");
        worth("a in r, a in 0, b in a, b in r, d in 0, d in d, r in 0, player in r, player in 0", "101010110");
        worth("a in -1, a in 99, a in 120, a in 121, a in 32767, a in " + LEAST + ", d in -1, a in 2, a in 258", "000000010");
    }

    private static void here() {
        Bench.about("Term 2: here: the room that the player is in");
        going("say here; move player to q; say here; move player to r; say here;", "232");
    }

    private static void nounAndSecond() {
        Bench.about("Term 2: noun, second: OBJECTS of the command, 0 when it has none (in eachs, too)");
        String story = "room r \"R\" { exit down r; } thing a \"A\" { in r; word aa; } thing b \"B\" { in r; word bb; } "
                + "verb hum hum alone; verb tie tie two with; on hum { say noun, second, \" \"; done; } on take { say noun, second, \" \"; done; } "
                + "on tie { say noun, second, \" \"; done; } on go { say noun, second, \" \"; done; } on drop { say noun, second; } "
                + "def both() { return noun * 10 + second; } each { say noun, second, \" \", both(); }";
        Bench bench = Bench.playing(story);
        Bench.same("one", "1 30 30 30", bench.play("take aa"));
        Bench.same("none behind one", "1 00 00 0", bench.play("hum"));
        Bench.same("two", "1 43 43 43", bench.play("tie bb with aa"));
        Bench.same("one behind two", "1 40 40 40", bench.play("take bb"));
        Bench.same("the player twice", "1 11 11 11", bench.play("tie me with me"));
        Bench.about("Term 2: noun is of go the DIRECTION");
        Bench.same("go", "1 60 60 60", bench.play("d"));
        Bench.same("none behind go", "1 00 00 0", bench.play("hum"));
        Bench.about("Term 2: noun is of take all and drop all the latest one");
        Bench.same("take all", "1 B: 40 A: 30 30 30", bench.play("take all"));
        bench = Bench.playing(story.replace("on take { say noun, second, \" \"; done; }", ""));
        Bench.same("all are taken", "1 B: Taken.\nA: Taken.\n30 30", bench.play("take all"));
        Bench.same("drop all", "1 A: 30Dropped.\nB: 40Dropped.\n40 40", bench.play("drop all"));
    }

    private static void random() {
        Bench.about("Term 2: random n: 1 .. n, drawn; 0, and nothing is drawn, if n is below 1");
        Bench bench = Bench.playing("room r \"R\" {} verb none none alone; verb most most alone; "
                + "on none { say random 0, random (-1), random (-32767 - 1); } on most { say random 32767; done; } on wait { say random 1, random 1; done; }");
        bench.house.begin(42);
        Bench.same("below 1", "1 000Nothing happens.\n", bench.play("none"));
        Bench.same("nothing is drawn", 42, bench.house.told(11));
        Bench.same("1", "1 11", bench.play("z"));
        Bench.same("drawn, too", (42 * 69069 + 1) * 69069 + 1, bench.house.told(11));
        int seed = 42;
        boolean within = true;
        bench.house.begin(seed);
        for (int i = 0; i < 200; i++) {
            String told = bench.play("most");
            seed = seed * 69069 + 1;
            within &= told.equals("1 " + (1 + (seed >>> 16) % 32768 % 32767));
        }
        Bench.same("of 32767", true, within);
    }

    private static void randomSeeds() {
        Bench.about("Term 2: the SEED becomes SEED * 69069 + 1 (modulo 2^32), random is 1 + (SEED / 65536 modulo 32768) modulo n");
        Bench bench = Bench.playing("room r \"R\" {} var n = 1; on wait { say random n; done; } verb set1 pair alone; verb set2 six alone; verb set3 large alone; "
                + "on set1 { n = 2; } on set2 { n = 6; } on set3 { n = 30000; }");
        for (int start : new int[] {0, 1, -1, 42, 65535, 65536, Integer.MAX_VALUE, Integer.MIN_VALUE, -1501269880}) {
            for (String line : new String[] {"pair", "six", "large"}) {
                bench.house.begin(start);
                bench.play(line);
                long seed = start & 0xffffffffL;
                int n = line.equals("pair") ? 2 : line.equals("six") ? 6 : 30000;
                for (int i = 0; i < 4; i++) {
                    seed = (seed * 69069 + 1) % 4294967296L;
                    Bench.same(line + " from " + start, "1 " + (1 + seed / 65536 % 32768 % n), bench.play("z"));
                    Bench.same("SEED from " + start, (int) seed, bench.house.told(11));
                }
            }
        }
    }

    private static void defs() {
        Bench.about("Term 2: a def called gets its numbers, and is 0 unless return tells another one");
        String items = "def none() {} def some(n) { if n { return n; } } def most(a, b, c, d, e, g) { say a, b, c, d, e; return g; } var x = 0; "
                + "def early() { return 5; x = 1; } def deep() { while 1 { if 1 { return 6; } } } def less(n) { n = n - 1; return n; } "
                + "def fact(n) { if n < 2 { return 1; } let m = fact(n - 1); return n * m; } def truth() { return 3 == 3; }";
        Bench.same("0 without return", "1 0", Bench.worth(items, "none()"));
        Bench.same("0 when it is not reached", "1 04", Bench.worth(items, "some(0), some(4)"));
        Bench.same("its numbers in their order", "1 123456", Bench.worth(items, "most(1, 2, 3, 4, 5, 6)"));
        Bench.same("return ends it", "1 50", Bench.worth(items, "early(), x"));
        Bench.same("also within a while", "1 6", Bench.worth(items, "deep()"));
        Bench.same("what it does with them is its own", "1 4594", Bench.worth(items + " var y = 4; def own(n) { let k = n; say k; return less(k) + k; }",
                "y, own(5), y"));
        Bench.same("within itself", "1 120", Bench.worth(items, "fact(5)"));
        Bench.same("a truth", "1 1", Bench.worth(items, "truth()"));
    }

    private static void varsAndLets() {
        Bench.about("Term 2: vars keep their numbers, a let's begin anew each time");
        Bench bench = Bench.playing("room r \"R\" {} var x = 5; def f() { let k = 0; k = k + 1; return k; } "
                + "on wait { let y = 1; x = x + 1; y = y + 1; let i = 0; while i < 3 { let z = 0; z = z + 1; i = i + 1; say z; } say x, y, f(), f(), \" \"; done; }");
        Bench.same("once", "1 1116211 ", bench.play("z"));
        Bench.same("again", "1 1117211 ", bench.play("z"));
    }

    private static void whiles() {
        Bench.about("Term 1: while, if, else");
        going("while 0 { say 1; } say 2;", "2");
        going("let i = 0; while i < 3 { say i; i = i + 1; } say i;", "0123");
        going("let i = 3; while i { let j = i; while j { say j; j = j - 1; } i = i - 1; }", "321211");
        going("if 0 { say 1; } else if 0 { say 2; } else if 1 { say 3; } else { say 4; }", "3");
        going("if 0 { say 1; } else if 0 { say 2; } else { say 4; } say 5;", "45");
        going("if 1 { say 1; } else if 1 { say 2; } else { say 4; } say 5;", "15");
        going("if 1 { if 0 { say 1; } } else { say 2; } say 3;", "3");
    }

    private static void moves() {
        Bench.about("Term 2: move a to b: a comes into b, before all that is there; also if it was there");
        going("move d to a; say first a, next d, next c, next b;", "7650");
        going("move b to a; say first a, next b, next c;", "560");
        going("move c to a; say first a, next c, next b;", "650");
        going("move a to r; say first r, next a, next player; move player to r; say first r, next player, next a;", "410140");
        going("move d to c; move d to c; say first c, next d;", "70");
        going("move d to a; move c to a; say first a, next c, next d, next b;", "6750");
        Bench.about("Term 2: a thing can come into any OBJECT but itself and what is in it, the player into rooms alone");
        going("move b to player; say holder b; move b to c; say holder b; move b to d; say holder b; move b to q; say holder b;", "1673");
        going("move a to player; move a to r; move player to q; say here, holder a, holder player;", "323");
        going("move d to b; move d to c; say holder d, first b, first c;", "607");
        going("set c hidden; clear c open; move d to c; say d in c;", "1");
    }

    private static void movesOfAll() {
        Bench.about("Term 2: a comes with all that is in it");
        going("move d to b; move a to q; say holder a, holder b, holder c, holder d, first q, first a, next c, first b, first r;", "344546571");
        going("move a to player; move player to q; say holder b, holder holder b, holder holder holder b;", "413");
    }

    private static void removes() {
        Bench.about("Term 2: remove a: a thing is in nothing then");
        going("remove a; say holder a, next a, first r, holder b, first a;", "00146");
        going("remove c; say holder c, next c, first a, next b;", "0050");
        going("remove b; say holder b, next b, first a, next c;", "0060");
        going("remove d; say holder d; remove a; remove a; say holder a, a in 0;", "001");
        going("move d to a; remove c; say first a, next d, next b;", "750");
        going("remove a; move a to r; say first r, next a, holder b;", "414");
    }

    private static void attributes() {
        Bench.about("Term 1: set and clear give and take one attribute");
        for (String attribute : "container fixed hidden light open supporter".split(" ")) {
            going("say d has " + attribute + "; set d " + attribute + "; set d " + attribute + "; say d has " + attribute + "; clear d " + attribute
                    + "; clear d " + attribute + "; say d has " + attribute + ";", "010");
            going("set r " + attribute + "; set player " + attribute + "; say r has " + attribute + ", player has " + attribute + ", q has " + attribute + ";", "110");
        }
        going("set d light; set d open; clear d light; say d has light, d has open, d has fixed, d has container, d has hidden, d has supporter;", "010000");
    }

    private static void tellings() {
        Bench.about("Term 1: TELLING: STRING, an expression's number, or name and a primary (what that is called)");
        worth("\"\", \"a^b\", \" \", 0, -1, \" \", 10, \" \", 9, 99, 100, 999, 1000, 9999, 10000, -9999, -10000",
                "a\nb 0-1 10 9991009991000999910000-9999-10000");
        worth("name a, name player, name holder b, name (a), name same(a), name here, name first a", "AyourselfAAARC");
        worth("name a, name r, 1 + 1", "AR2");
    }
}
