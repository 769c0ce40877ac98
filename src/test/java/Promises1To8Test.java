/** Promises 1 to 8: a new object, feed, build, place, begin, enter, size, out; each sentence that names a boundary. */
public final class Promises1To8Test {
    private static final String R = "room r \"R\" {} ";
    private static final int[] ODD = {Integer.MIN_VALUE, -2, -1, 9, 10, 255, 256, Integer.MAX_VALUE};

    public static void main(String[] args) {
        promise1NothingIsBuilt();
        promise2LowestFirst();
        promise2HowManyBytes();
        promise2EachByte();
        promise2MoreThan16000();
        promise2RefusedCalls();
        promise3HowManyObjects();
        promise3TapeIsEmptyThen();
        promise3FaultKeepsWhatWasBuilt();
        promise3PlayEnds();
        promise4Place();
        promise5Begin();
        promise5SavedOnesStay();
        promise6Line();
        promise6TapeIsEmptyThen();
        promise6Answers();
        promise6NothingIsPlayed();
        promise7And8Out();
        Bench.end();
    }

    private static void promise1NothingIsBuilt() {
        Bench.about("Promise 1: nothing is built");
        Bench bench = new Bench();
        StoryHouse house = bench.house;
        Bench.same("NONE", -1, StoryHouse.NONE);
        Bench.same("place", StoryHouse.NONE, house.place());
        Bench.same("size", 0, house.size());
        Bench.same("sound", true, house.sound());
        for (int what = 0; what < 12; what++) {
            Bench.same("told " + what, 0, house.told(what));
        }
        Bench.refuses("begin", IllegalStateException.class, () -> house.begin(0));
        Bench.refuses("enter", IllegalStateException.class, house::enter);
        Bench.refuses("undo", IllegalStateException.class, house::undo);
        for (int place = 0; place < 4; place++) {
            int there = place;
            Bench.refuses("save " + place, IllegalStateException.class, () -> house.save(there));
            Bench.refuses("restore " + place, IllegalStateException.class, () -> house.restore(there));
        }
        for (int i : new int[] {-1, 0, 1, 2}) {
            Bench.refuses("out " + i, IndexOutOfBoundsException.class, () -> house.out(i));
            Bench.refuses("holder " + i, IndexOutOfBoundsException.class, () -> house.holder(i));
            Bench.refuses("first " + i, IndexOutOfBoundsException.class, () -> house.first(i, false));
            Bench.refuses("has " + i, IndexOutOfBoundsException.class, () -> house.has(i, 0));
            Bench.refuses("value " + i, IndexOutOfBoundsException.class, () -> house.value(i));
            Bench.refuses("cell " + i, IndexOutOfBoundsException.class, () -> house.cell(i, 0));
        }
        Bench.same("the TAPE is empty", 1, house.feed('a', 1));
    }

    private static void promise2LowestFirst() {
        Bench.about("Promise 2: the n lowest bytes of a long, the lowest first, come behind the TAPE");
        Bench bench = new Bench();
        bench.house.feed('r' | 'o' << 8 | 'o' << 16 | 'm' << 24, 4);
        bench.house.feed((long) 'r' << 8 | ' ', 2);
        bench.house.feed(0x7b22522220L, 5);
        bench.house.feed('}', 1);
        Bench.same("a source", 2, bench.house.build());
        bench.house.feed(0x6b6f6f6cL, 4);
        bench.house.begin(1);
        Bench.same("a LINE", 1, bench.house.enter());
        for (int n = 1; n <= 8; n++) {
            Bench row = Bench.playing("room r \"R\" {} verb v v, vv, vvv, vvvv, vvvvv, vvvvvv, vvvvvvv, vvvvvvvv alone;");
            Bench.same("how many", n, row.house.feed(0x7676767676767676L, n));
            row.house.feed(' ', 1);
            Bench.same(n + " bytes", 1, row.house.enter());
        }
    }

    private static void promise2HowManyBytes() {
        Bench.about("Promise 2: n is 1 .. 8, what is above the n lowest bytes is not looked at; how many the TAPE has");
        StoryHouse house = new StoryHouse();
        Bench.same("1", 1, house.feed(0xffffffffffffff61L, 1));
        Bench.same("7", 8, house.feed(0xff61616161616161L, 7));
        Bench.same("4", 12, house.feed(0x61616161L, 4));
        Bench.same("8", 20, house.feed(0x6161616161616161L, 8));
        for (int n : ODD) {
            Bench.refuses("n " + n, IllegalArgumentException.class, () -> house.feed(0x6161616161616161L, n));
        }
        Bench.refuses("n 0", IllegalArgumentException.class, () -> house.feed(0x6161616161616161L, 0));
        Bench.same("nothing came of it", 21, house.feed('a', 1));
    }

    private static void promise2EachByte() {
        Bench.about("Promise 2: each byte is 10 or 32 .. 126");
        StoryHouse house = new StoryHouse();
        int count = 0;
        for (int c = 0; c < 256; c++) {
            long one = c;
            if (c == 10 || c >= 32 && c <= 126) {
                count++;
                Bench.same("byte " + c, count, house.feed(one, 1));
                for (int at = 0; at < 8; at++) {
                    long row = 0x6161616161616161L & ~(255L << 8 * at) | one << 8 * at;
                    count += 8;
                    Bench.same("byte " + c + " at " + at, count, house.feed(row, 8));
                }
            } else {
                Bench.refuses("byte " + c, IllegalArgumentException.class, () -> house.feed(one, 1));
                for (int at = 0; at < 8; at++) {
                    long row = 0x6161616161616161L & ~(255L << 8 * at) | one << 8 * at;
                    Bench.refuses("byte " + c + " at " + at, IllegalArgumentException.class, () -> house.feed(row, 8));
                }
            }
        }
        Bench.same("nothing came of those", count + 1, house.feed('a', 1));
    }

    private static void promise2MoreThan16000() {
        Bench.about("Promise 2: IllegalStateException: there would be more than 16000");
        StoryHouse house = new StoryHouse();
        for (int i = 1; i <= 1999; i++) {
            house.feed(0x2020202020202020L, 8);
        }
        Bench.same("15993", 15993, house.feed(' ', 1));
        Bench.refuses("16001", IllegalStateException.class, () -> house.feed(0x2020202020202020L, 8));
        Bench.same("15999", 15999, house.feed(0x2020202020202020L, 6));
        Bench.refuses("16001, too", IllegalStateException.class, () -> house.feed(0x2020L, 2));
        Bench.same("16000", 16000, house.feed('#', 1));
        Bench.refuses("one more", IllegalStateException.class, () -> house.feed(' ', 1));
        Bench.refuses("a byte that is none, first", IllegalArgumentException.class, () -> house.feed(0, 1));
        Bench.refuses("n 0, first", IllegalArgumentException.class, () -> house.feed(' ', 0));
        Bench.same("all 16000 are the SOURCE", -6, house.build());
        Bench.same("its end", 16000, house.place());
    }

    private static void promise2RefusedCalls() {
        Bench.about("Promise 2: a call that is refused leaves the TAPE as it was");
        Bench bench = Bench.playing(R);
        bench.house.feed('z', 1);
        Bench.refuses("a wrong last byte", IllegalArgumentException.class, () -> bench.house.feed(0x0061616161616161L, 8));
        Bench.refuses("9 bytes", IllegalArgumentException.class, () -> bench.house.feed(0x6161616161616161L, 9));
        Bench.same("the LINE", 1, bench.house.enter());
        Bench.same("its OUT", "Time passes.\n", bench.out());
    }

    private static void promise3HowManyObjects() {
        Bench.about("Promise 3: how many OBJECTS there are; or less its FAULT's number");
        Bench.same("the least", 2, new Bench().build(R));
        Bench.same("more", 5, new Bench().build(R + "thing a \"A\" {} room s \"S\" {} thing b \"B\" {} var x = 1; def f() {}"));
        StringBuilder most = new StringBuilder("room r \"\" {}");
        for (int i = 0; i < 118; i++) {
            most.append("thing t").append(i).append("\"\"{}");
        }
        Bench.same("the most", 120, new Bench().build(most.toString()));
        String[] faulty = {"!", "room", "on jump {}", "var r = 1;", "array a[0];"};
        for (int i = 0; i < faulty.length; i++) {
            Bench.same("fault " + (i + 1), -i - 1, new Bench().build(R + faulty[i]));
        }
        Bench.same("fault 6", -6, new Bench().build(""));
    }

    private static void promise3TapeIsEmptyThen() {
        Bench.about("Promise 3: the TAPE is empty then");
        Bench bench = new Bench();
        Bench.same("built", 2, bench.build(R));
        Bench.same("empty", 1, bench.house.feed('r', 1));
        Bench.same("a fault", -2, bench.build("!"));
        Bench.same("empty, too", 1, bench.house.feed(' ', 1));
        Bench.same("a source of one blank", -6, bench.house.build());
        Bench.same("a source of nothing", -6, bench.house.build());
        Bench.same("its place", 0, bench.house.place());
    }

    private static void promise3FaultKeepsWhatWasBuilt() {
        Bench.about("Promise 3: with a FAULT what was built stays");
        String[] faulty = {"!", "room r", "room r \"N\" {} each { say " + "(".repeat(40), "room r \"N\" {} var r = 1;", "room r \"N\" {} array q[401];",
            "room r \"N\" { dark; } thing u \"U\" { in r; word tt; light; } verb w z alone; array q[7]; def f() { say 8; } on wait { say 9; } each { n = 1; }", "thing u \"U\" {}", ""};
        for (String source : faulty) {
            Bench bench = new Bench();
            String built = "room r \"Old\" { text \"T.\"; } thing t \"Thing\" { in r; word tt; } var x = 7; var y = 8; array a[3]; verb v v alone; def f() { say \"f\"; } "
                    + "on wait { say \"rule \"; f(); done; } each { x = x + 1; a[2] = x; }";
            bench.build(built);
            bench.build(source);
            Bench.same("counts behind " + source, "3 12 2 1 1 1 1", bench.house.told(0) + " " + bench.house.told(1) + " " + bench.house.told(2) + " " + bench.house.told(3)
                    + " " + bench.house.told(4) + " " + bench.house.told(5) + " " + bench.house.told(6));
            Bench.same("sound behind " + source, true, bench.house.sound());
            bench.house.begin(1);
            Bench.same("it begins", "Old\nT.\nThere is Thing here.\n", bench.out());
            bench.play("x tt");
            bench.house.save(1);
            Bench.same("a fault in a play", true, bench.build(source) < 0);
            Bench.same("the play goes on", "1 rule f", bench.play("z"));
            Bench.same("its numbers", "9 8 9 2 3 2", bench.house.value(0) + " " + bench.house.value(1) + " " + bench.house.cell(0, 2) + " " + bench.house.told(7) + " "
                    + bench.house.told(9) + " " + bench.house.told(10));
            bench.house.restore(1);
            Bench.same("what was saved stays", 8, bench.house.value(0));
            Bench.same("sound in a play", true, bench.house.sound());
        }
    }

    private static void promise3PlayEnds() {
        Bench.about("Promise 3: a play under way ends, when it is built: nothing is played");
        Bench bench = Bench.playing(R + "thing t \"T\" { in r; } var x = 7; array a[3];");
        bench.play("z");
        bench.house.save(0);
        Bench.same("built", 2, bench.build("room r \"New\" {} var x = 8; array a[2];"));
        StoryHouse house = bench.house;
        Bench.refuses("enter", IllegalStateException.class, house::enter);
        Bench.refuses("undo", IllegalStateException.class, house::undo);
        Bench.refuses("save", IllegalStateException.class, () -> house.save(0));
        Bench.refuses("restore", IllegalStateException.class, () -> house.restore(0));
        Bench.refuses("holder", IllegalStateException.class, () -> house.holder(1));
        Bench.refuses("first", IllegalStateException.class, () -> house.first(1, true));
        Bench.refuses("has", IllegalStateException.class, () -> house.has(1, 1));
        Bench.refuses("value", IllegalStateException.class, () -> house.value(0));
        Bench.refuses("cell", IllegalStateException.class, () -> house.cell(0, 1));
        Bench.refuses("an OBJECT of the story before", IndexOutOfBoundsException.class, () -> house.holder(3));
        Bench.refuses("a cell of the story before", IndexOutOfBoundsException.class, () -> house.cell(0, 2));
        for (int what = 7; what < 12; what++) {
            Bench.same("told " + what, 0, house.told(what));
        }
        Bench.same("sound", true, house.sound());
        house.begin(3);
        Bench.same("the new one", "New\n", bench.out());
        Bench.same("its numbers", "8 0 0", house.value(0) + " " + house.cell(0, 1) + " " + house.told(7));
    }

    private static void promise4Place() {
        Bench.about("Promise 4: where the latest build() had its FAULT, from 0 on: the first byte of the word; NONE without one");
        Bench bench = new Bench();
        bench.build("! room");
        Bench.same("the first byte", 0, bench.house.place());
        bench.build("room abc \"R\" {} abcdef");
        Bench.same("the first byte of a NAME", 16, bench.house.place());
        bench.build("room abc \"R\" {} 99999");
        Bench.same("of a NUMBER", 16, bench.house.place());
        bench.build("room abc \"R\" {} \"abc");
        Bench.same("of a STRING", 16, bench.house.place());
        bench.build("room abc \"R\" {} >=");
        Bench.same("of a SIGN", 16, bench.house.place());
        bench.build("room abc");
        Bench.same("the SOURCE's end", 8, bench.house.place());
        bench.build(R);
        Bench.same("without a FAULT", StoryHouse.NONE, bench.house.place());
        bench.build("");
        Bench.same("a later one", 0, bench.house.place());
        bench.house.begin(1);
        bench.play("z");
        bench.house.save(0);
        bench.house.restore(0);
        Bench.same("it stays in a play", 0, bench.house.place());
    }

    private static void promise5Begin() {
        Bench.about("Promise 5: a play begins, with a SEED; IllegalStateException: nothing is built");
        Bench bench = new Bench();
        Bench.refuses("nothing is built", IllegalStateException.class, () -> bench.house.begin(1));
        bench.build("room r");
        Bench.refuses("a FAULT", IllegalStateException.class, () -> bench.house.begin(1));
        bench.build(R + "var x = 1; each { x = x * 2; }");
        for (int seed : new int[] {0, 1, -1, 42, Integer.MIN_VALUE, Integer.MAX_VALUE}) {
            bench.house.begin(seed);
            Bench.same("SEED", seed, bench.house.told(11));
            Bench.same("anew", "1 0 0", bench.house.value(0) + " " + bench.house.told(7) + " " + bench.house.told(10));
            Bench.same("OUT", "R\n", bench.out());
            bench.play("z");
            Bench.same("it goes on", "2 1 1", bench.house.value(0) + " " + bench.house.told(7) + " " + bench.house.told(10));
        }
        bench.house.feed('z', 1);
        bench.house.begin(1);
        Bench.same("the TAPE stays", 1, bench.house.enter());
    }

    private static void promise5SavedOnesStay() {
        Bench.about("Promise 5: saved ones stay");
        Bench bench = Bench.playing(R + "var x = 1; each { x = x * 2; }");
        for (int place = 0; place < 4; place++) {
            bench.play("z");
            bench.house.save(place);
        }
        bench.house.begin(9);
        for (int place = 0; place < 4; place++) {
            bench.house.restore(place);
            Bench.same("place " + place, 2 << place, bench.house.value(0));
        }
    }

    private static void promise6Line() {
        Bench.about("Promise 6: the TAPE, its first 120 bytes (each 10 as 32), is played as a LINE");
        Bench bench = Bench.playing(R);
        Bench.same("120 bytes", "1 Time passes.\n", bench.play("\n".repeat(119) + "z"));
        Bench.same("the 121st", "0 I beg your pardon?\n", bench.play("\n".repeat(120) + "z"));
        Bench.same("10 parts TERMS", "1 You see nothing special.\n", bench.play("x\nme"));
        Bench.same("no byte", "0 I beg your pardon?\n", bench.play(""));
        Bench.same("what was fed in rows", "1 Time passes.\n", bench.feed("wa").feed("i").play("t"));
    }

    private static void promise6TapeIsEmptyThen() {
        Bench.about("Promise 6: the TAPE is empty then");
        Bench bench = Bench.playing(R + "verb v v alone; on v { say 1 / 0; } verb w ww alone; on w { win; }");
        for (String line : new String[] {"z", "", "dance", "z" + " ".repeat(500), "g", "go", "v", "ww", "z"}) {
            bench.play(line);
            Bench.same("behind [" + line + "]", 1, bench.house.feed(' ', 1));
            bench.house.enter();
        }
    }

    private static void promise6Answers() {
        Bench.about("Promise 6: 0 when it was no command, 1 a command, 2 it BREAKS, 3 the play has ENDED (before, or by it)");
        Bench bench = Bench.playing(R + "verb v v alone; on v { say 1 / 0; } verb w ww alone; on w { win; } verb u uu alone; on u { lose; }");
        Bench.same("no command", 0, bench.play("dance").charAt(0) - '0');
        Bench.same("a command", 1, bench.play("n").charAt(0) - '0');
        Bench.same("it BREAKS", 2, bench.play("v").charAt(0) - '0');
        Bench.same("ENDED by it", 3, bench.play("ww").charAt(0) - '0');
        Bench.same("ENDED before", 3, bench.play("n").charAt(0) - '0');
        Bench.same("ENDED before, no command", 3, bench.play("dance").charAt(0) - '0');
        bench.house.undo();
        Bench.same("ENDED no more", 1, bench.play("n").charAt(0) - '0');
        Bench.same("lost", 3, bench.play("uu").charAt(0) - '0');
    }

    private static void promise6NothingIsPlayed() {
        Bench.about("Promise 6: IllegalStateException: nothing is played");
        Bench bench = new Bench();
        bench.house.feed('z', 1);
        Bench.refuses("nothing is built", IllegalStateException.class, bench.house::enter);
        Bench.same("the TAPE stays", 2, bench.house.feed('!', 1));
        bench.house.build();
        bench.build(R);
        bench.house.feed('z', 1);
        Bench.refuses("not begun", IllegalStateException.class, bench.house::enter);
        bench.house.begin(1);
        Bench.same("the TAPE stays for the play", 1, bench.house.enter());
        bench.build(R);
        Bench.refuses("built anew", IllegalStateException.class, bench.house::enter);
        Bench.same("OUT stays", "Time passes.\n", bench.out());
    }

    private static void promise7And8Out() {
        Bench.about("Promises 7 and 8: how many bytes OUT has, byte i of it; IndexOutOfBoundsException");
        Bench bench = Bench.playing(R);
        Bench.same("size", 2, bench.house.size());
        Bench.same("byte 0", 82, bench.house.out(0));
        Bench.same("byte 1", 10, bench.house.out(1));
        for (int i : new int[] {Integer.MIN_VALUE, -1, 2, 3, 2999, 3000, Integer.MAX_VALUE}) {
            Bench.refuses("byte " + i, IndexOutOfBoundsException.class, () -> bench.house.out(i));
        }
        Bench full = Bench.playing(R + "on wait { let i = 0; while i < 600 { say \"0123456789\"; i = i + 1; } }");
        full.play("z");
        Bench.same("size at most", 3000, full.house.size());
        Bench.same("the last byte", (int) '9', full.house.out(2999));
        Bench.refuses("byte 3000", IndexOutOfBoundsException.class, () -> full.house.out(3000));
        Bench.about("Promises 7 and 8: OUT has what was told since the latest begin(), enter(), restore(), undo() began");
        full.play("i");
        Bench.same("enter", 19, full.house.size());
        full.house.save(0);
        Bench.same("save leaves it", 19, full.house.size());
        full.feed("z");
        Bench.same("feed leaves it", 19, full.house.size());
        full.house.undo();
        Bench.same("undo", 0, full.house.size());
        full.house.enter();
        full.house.restore(0);
        Bench.same("restore", 0, full.house.size());
        full.play("i");
        full.house.begin(1);
        Bench.same("begin", "R\n", full.out());
        full.build("!");
        Bench.same("build leaves it", "R\n", full.out());
        full.house.undo();
        Bench.same("undo of nothing", 0, full.house.size());
        Bench.refuses("byte 0 of nothing", IndexOutOfBoundsException.class, () -> full.house.out(0));
        full.play("z");
        Bench.refuses("a wrong place", IndexOutOfBoundsException.class, () -> full.house.restore(4));
        Bench.refuses("a place without a play", IllegalStateException.class, () -> full.house.restore(1));
        Bench.same("refused calls leave it", 3000, full.house.size());
    }
}
